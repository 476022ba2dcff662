def RX0 : String := "UrnHeap$1"
def TX0 : u_T := fun k => match k with
  | _ => ("", "", "", false)
def tyX0 : Nat → FieldType := fun k => match k with
  | _ => .int
abbrev wsX00 : List Cond := u_ws "UrnHeap$1" TX0 0
theorem nmX0 : ∀ a, a < 0 → ∀ b, b < 0 → a ≠ b → (TX0 a).2.1 ≠ (TX0 b).2.1 := by decide +kernel
theorem tyX0_ok : ∀ k, k < 0 → parseFieldDescriptor (TX0 k).2.2.1 = some (tyX0 k) := by decide +kernel
def RX1 : String := "UrnHeap$Hands"
def TX1 : u_T := fun k => match k with
  | 0 => ("UrnHeap$Hands", "heap", "LUrnHeap$Heap;", true)
  | _ => ("UrnHeap$Hands", "refusals", "LUrnHeap$Refusals;", true)
def tyX1 : Nat → FieldType := fun k => match k with
  | 0 => .object "UrnHeap$Heap"
  | _ => .object "UrnHeap$Refusals"
abbrev wsX10 : List Cond := u_ws "UrnHeap$Hands" TX1 2
theorem nmX1 : ∀ a, a < 2 → ∀ b, b < 2 → a ≠ b → (TX1 a).2.1 ≠ (TX1 b).2.1 := by decide +kernel
theorem tyX1_ok : ∀ k, k < 2 → parseFieldDescriptor (TX1 k).2.2.1 = some (tyX1 k) := by decide +kernel
abbrev cX1_init : ByteArray := prog_3_method_1_code
def yX1_init : MethodName := ⟨"UrnHeap$Hands", "<init>", "(LUrnHeap$Heap;LUrnHeap$Refusals;)V"⟩
abbrev cX1_makeUrn : ByteArray := prog_3_method_2_code
def yX1_makeUrn : MethodName := ⟨"UrnHeap$Hands", "makeUrn", "(Z)I"⟩
abbrev cX1_colourOfNew : ByteArray := prog_3_method_3_code
def yX1_colourOfNew : MethodName := ⟨"UrnHeap$Hands", "colourOfNew", "(I)I"⟩
abbrev cX1_tieThread : ByteArray := prog_3_method_4_code
def yX1_tieThread : MethodName := ⟨"UrnHeap$Hands", "tieThread", "(III)I"⟩
abbrev cX1_takeThread : ByteArray := prog_3_method_5_code
def yX1_takeThread : MethodName := ⟨"UrnHeap$Hands", "takeThread", "(II)I"⟩
abbrev cX1_tieWeak : ByteArray := prog_3_method_6_code
def yX1_tieWeak : MethodName := ⟨"UrnHeap$Hands", "tieWeak", "(II)I"⟩
abbrev cX1_takeWeak : ByteArray := prog_3_method_7_code
def yX1_takeWeak : MethodName := ⟨"UrnHeap$Hands", "takeWeak", "(I)I"⟩
abbrev cX1_giveName : ByteArray := prog_3_method_8_code
def yX1_giveName : MethodName := ⟨"UrnHeap$Hands", "giveName", "(II)I"⟩
abbrev cX1_takeName : ByteArray := prog_3_method_9_code
def yX1_takeName : MethodName := ⟨"UrnHeap$Hands", "takeName", "(I)I"⟩
def RX2 : String := "UrnHeap$Heap"
def TX2 : u_T := fun k => match k with
  | 0 => ("UrnHeap$Heap", "threads", "[I", true)
  | 1 => ("UrnHeap$Heap", "weaks", "[I", true)
  | 2 => ("UrnHeap$Heap", "rites", "[I", true)
  | 3 => ("UrnHeap$Heap", "colours", "[I", true)
  | 4 => ("UrnHeap$Heap", "madeIn", "[I", true)
  | 5 => ("UrnHeap$Heap", "names", "[I", true)
  | 6 => ("UrnHeap$Heap", "late", "[I", true)
  | 7 => ("UrnHeap$Heap", "greys", "LUrnHeap$Row;", true)
  | 8 => ("UrnHeap$Heap", "dues", "LUrnHeap$Row;", true)
  | 9 => ("UrnHeap$Heap", "phase", "I", false)
  | 10 => ("UrnHeap$Heap", "nextSwept", "I", false)
  | 11 => ("UrnHeap$Heap", "roundsOver", "I", false)
  | 12 => ("UrnHeap$Heap", "urnsMade", "I", false)
  | 13 => ("UrnHeap$Heap", "urnsFreed", "I", false)
  | 14 => ("UrnHeap$Heap", "ritesDone", "I", false)
  | 15 => ("UrnHeap$Heap", "weaksCut", "I", false)
  | _ => ("UrnHeap$Heap", "partsDone", "I", false)
def tyX2 : Nat → FieldType := fun k => match k with
  | 0 => .array .int
  | 1 => .array .int
  | 2 => .array .int
  | 3 => .array .int
  | 4 => .array .int
  | 5 => .array .int
  | 6 => .array .int
  | 7 => .object "UrnHeap$Row"
  | 8 => .object "UrnHeap$Row"
  | 9 => .int
  | 10 => .int
  | 11 => .int
  | 12 => .int
  | 13 => .int
  | 14 => .int
  | 15 => .int
  | _ => .int
abbrev wsX20 : List Cond := u_ws "UrnHeap$Heap" TX2 17
theorem nmX2 : ∀ a, a < 17 → ∀ b, b < 17 → a ≠ b → (TX2 a).2.1 ≠ (TX2 b).2.1 := by decide +kernel
theorem tyX2_ok : ∀ k, k < 17 → parseFieldDescriptor (TX2 k).2.2.1 = some (tyX2 k) := by decide +kernel
abbrev cX2_init : ByteArray := prog_4_method_1_code
def yX2_init : MethodName := ⟨"UrnHeap$Heap", "<init>", "()V"⟩
abbrev cX2_copyFrom : ByteArray := prog_4_method_2_code
def yX2_copyFrom : MethodName := ⟨"UrnHeap$Heap", "copyFrom", "(LUrnHeap$Heap;)V"⟩
abbrev cX2_hasUrn : ByteArray := prog_4_method_3_code
def yX2_hasUrn : MethodName := ⟨"UrnHeap$Heap", "hasUrn", "(I)Z"⟩
abbrev cX2_isWhite : ByteArray := prog_4_method_4_code
def yX2_isWhite : MethodName := ⟨"UrnHeap$Heap", "isWhite", "(I)Z"⟩
abbrev cX2_isToBeSwept : ByteArray := prog_4_method_5_code
def yX2_isToBeSwept : MethodName := ⟨"UrnHeap$Heap", "isToBeSwept", "(I)Z"⟩
abbrev cX2_target : ByteArray := prog_4_method_6_code
def yX2_target : MethodName := ⟨"UrnHeap$Heap", "target", "(II)I"⟩
abbrev cX2_urns : ByteArray := prog_4_method_7_code
def yX2_urns : MethodName := ⟨"UrnHeap$Heap", "urns", "()I"⟩
abbrev cX2_urnsOf : ByteArray := prog_4_method_8_code
def yX2_urnsOf : MethodName := ⟨"UrnHeap$Heap", "urnsOf", "(I)I"⟩
abbrev cX2_namesInUse : ByteArray := prog_4_method_9_code
def yX2_namesInUse : MethodName := ⟨"UrnHeap$Heap", "namesInUse", "()I"⟩
abbrev cX2_threadsFrom : ByteArray := prog_4_method_10_code
def yX2_threadsFrom : MethodName := ⟨"UrnHeap$Heap", "threadsFrom", "(I)I"⟩
abbrev cX2_holdersOf : ByteArray := prog_4_method_11_code
def yX2_holdersOf : MethodName := ⟨"UrnHeap$Heap", "holdersOf", "(I)I"⟩
abbrev cX2_holdersOfAll : ByteArray := prog_4_method_12_code
def yX2_holdersOfAll : MethodName := ⟨"UrnHeap$Heap", "holdersOfAll", "()I"⟩
abbrev cX2_freedLate : ByteArray := prog_4_method_13_code
def yX2_freedLate : MethodName := ⟨"UrnHeap$Heap", "freedLate", "(I)I"⟩
abbrev cX2_makeGrey : ByteArray := prog_4_method_14_code
def yX2_makeGrey : MethodName := ⟨"UrnHeap$Heap", "makeGrey", "(I)V"⟩
abbrev cX2_makeGreyInRound : ByteArray := prog_4_method_15_code
def yX2_makeGreyInRound : MethodName := ⟨"UrnHeap$Heap", "makeGreyInRound", "(I)V"⟩
abbrev cX2_free : ByteArray := prog_4_method_16_code
def yX2_free : MethodName := ⟨"UrnHeap$Heap", "free", "(I)V"⟩
abbrev cX2_isSound : ByteArray := prog_4_method_17_code
def yX2_isSound : MethodName := ⟨"UrnHeap$Heap", "isSound", "()Z"⟩
abbrev cX2_areUrns : ByteArray := prog_4_method_18_code
def yX2_areUrns : MethodName := ⟨"UrnHeap$Heap", "areUrns", "([I)Z"⟩
abbrev cX2_hasBlackToWhite : ByteArray := prog_4_method_19_code
def yX2_hasBlackToWhite : MethodName := ⟨"UrnHeap$Heap", "hasBlackToWhite", "()Z"⟩
def RX3 : String := "UrnHeap$History"
def TX3 : u_T := fun k => match k with
  | 0 => ("UrnHeap$History", "now", "LUrnHeap$Heap;", true)
  | 1 => ("UrnHeap$History", "past", "[LUrnHeap$Heap;", true)
  | 2 => ("UrnHeap$History", "saved", "LUrnHeap$Heap;", true)
  | 3 => ("UrnHeap$History", "isSaved", "Z", false)
  | 4 => ("UrnHeap$History", "next", "I", false)
  | _ => ("UrnHeap$History", "changes", "I", false)
def tyX3 : Nat → FieldType := fun k => match k with
  | 0 => .object "UrnHeap$Heap"
  | 1 => .array (.object "UrnHeap$Heap")
  | 2 => .object "UrnHeap$Heap"
  | 3 => .boolean
  | 4 => .int
  | _ => .int
abbrev wsX30 : List Cond := u_ws "UrnHeap$History" TX3 6
theorem nmX3 : ∀ a, a < 6 → ∀ b, b < 6 → a ≠ b → (TX3 a).2.1 ≠ (TX3 b).2.1 := by decide +kernel
theorem tyX3_ok : ∀ k, k < 6 → parseFieldDescriptor (TX3 k).2.2.1 = some (tyX3 k) := by decide +kernel
abbrev cX3_init : ByteArray := prog_5_method_1_code
def yX3_init : MethodName := ⟨"UrnHeap$History", "<init>", "(LUrnHeap$Heap;)V"⟩
abbrev cX3_isRefusal : ByteArray := prog_5_method_2_code
def yX3_isRefusal : MethodName := ⟨"UrnHeap$History", "isRefusal", "(I)Z"⟩
abbrev cX3_keepBefore : ByteArray := prog_5_method_3_code
def yX3_keepBefore : MethodName := ⟨"UrnHeap$History", "keepBefore", "()V"⟩
abbrev cX3_takeBack : ByteArray := prog_5_method_4_code
def yX3_takeBack : MethodName := ⟨"UrnHeap$History", "takeBack", "()V"⟩
abbrev cX3_settle : ByteArray := prog_5_method_5_code
def yX3_settle : MethodName := ⟨"UrnHeap$History", "settle", "(I)I"⟩
abbrev cX3_undoLatest : ByteArray := prog_5_method_6_code
def yX3_undoLatest : MethodName := ⟨"UrnHeap$History", "undoLatest", "()I"⟩
abbrev cX3_saveNow : ByteArray := prog_5_method_7_code
def yX3_saveNow : MethodName := ⟨"UrnHeap$History", "saveNow", "()I"⟩
abbrev cX3_restoreSaved : ByteArray := prog_5_method_8_code
def yX3_restoreSaved : MethodName := ⟨"UrnHeap$History", "restoreSaved", "()I"⟩
abbrev cX3_copyAtNext : ByteArray := prog_5_method_9_code
def yX3_copyAtNext : MethodName := ⟨"UrnHeap$History", "copyAtNext", "()LUrnHeap$Heap;"⟩
def RX4 : String := "UrnHeap$Kind"
def TX4 : u_T := fun k => match k with
  | _ => ("", "", "", false)
def tyX4 : Nat → FieldType := fun k => match k with
  | _ => .int
abbrev wsX40 : List Cond := u_ws "UrnHeap$Kind" TX4 0
theorem nmX4 : ∀ a, a < 0 → ∀ b, b < 0 → a ≠ b → (TX4 a).2.1 ≠ (TX4 b).2.1 := by decide +kernel
theorem tyX4_ok : ∀ k, k < 0 → parseFieldDescriptor (TX4 k).2.2.1 = some (tyX4 k) := by decide +kernel
def RX5 : String := "UrnHeap$Line"
def TX5 : u_T := fun k => match k with
  | _ => ("UrnHeap$Line", "signs", "Ljava/lang/StringBuilder;", true)
def tyX5 : Nat → FieldType := fun k => match k with
  | _ => .object "java/lang/StringBuilder"
abbrev wsX50 : List Cond := u_ws "UrnHeap$Line" TX5 1
theorem nmX5 : ∀ a, a < 1 → ∀ b, b < 1 → a ≠ b → (TX5 a).2.1 ≠ (TX5 b).2.1 := by decide +kernel
theorem tyX5_ok : ∀ k, k < 1 → parseFieldDescriptor (TX5 k).2.2.1 = some (tyX5 k) := by decide +kernel
abbrev cX5_init : ByteArray := prog_7_method_1_code
def yX5_init : MethodName := ⟨"UrnHeap$Line", "<init>", "()V"⟩
def RX6 : String := "UrnHeap$Orders"
def TX6 : u_T := fun k => match k with
  | 0 => ("UrnHeap$Orders", "text", "Ljava/lang/StringBuilder;", true)
  | 1 => ("UrnHeap$Orders", "kinds", "[LUrnHeap$Kind;", true)
  | 2 => ("UrnHeap$Orders", "firsts", "[I", true)
  | 3 => ("UrnHeap$Orders", "seconds", "[I", true)
  | 4 => ("UrnHeap$Orders", "thirds", "[I", true)
  | 5 => ("UrnHeap$Orders", "count", "I", false)
  | 6 => ("UrnHeap$Orders", "numbers", "[I", true)
  | _ => ("UrnHeap$Orders", "at", "I", false)
def tyX6 : Nat → FieldType := fun k => match k with
  | 0 => .object "java/lang/StringBuilder"
  | 1 => .array (.object "UrnHeap$Kind")
  | 2 => .array .int
  | 3 => .array .int
  | 4 => .array .int
  | 5 => .int
  | 6 => .array .int
  | _ => .int
abbrev wsX60 : List Cond := u_ws "UrnHeap$Orders" TX6 8
theorem nmX6 : ∀ a, a < 8 → ∀ b, b < 8 → a ≠ b → (TX6 a).2.1 ≠ (TX6 b).2.1 := by decide +kernel
theorem tyX6_ok : ∀ k, k < 8 → parseFieldDescriptor (TX6 k).2.2.1 = some (tyX6 k) := by decide +kernel
abbrev cX6_init : ByteArray := prog_8_method_1_code
def yX6_init : MethodName := ⟨"UrnHeap$Orders", "<init>", "()V"⟩
abbrev cX6_addSign : ByteArray := prog_8_method_2_code
def yX6_addSign : MethodName := ⟨"UrnHeap$Orders", "addSign", "(I)I"⟩
abbrev cX6_signs : ByteArray := prog_8_method_3_code
def yX6_signs : MethodName := ⟨"UrnHeap$Orders", "signs", "()I"⟩
abbrev cX6_clearText : ByteArray := prog_8_method_4_code
def yX6_clearText : MethodName := ⟨"UrnHeap$Orders", "clearText", "()V"⟩
abbrev cX6_has : ByteArray := prog_8_method_5_code
def yX6_has : MethodName := ⟨"UrnHeap$Orders", "has", "(I)Z"⟩
abbrev cX6_read : ByteArray := prog_8_method_6_code
def yX6_read : MethodName := ⟨"UrnHeap$Orders", "read", "()I"⟩
abbrev cX6_readOrder : ByteArray := prog_8_method_7_code
def yX6_readOrder : MethodName := ⟨"UrnHeap$Orders", "readOrder", "(I)I"⟩
abbrev cX6_fits : ByteArray := prog_8_method_8_code
def yX6_fits : MethodName := ⟨"UrnHeap$Orders", "fits", "(Ljava/lang/String;)Z"⟩
abbrev cX6_isOrderEnd : ByteArray := prog_8_method_9_code
def yX6_isOrderEnd : MethodName := ⟨"UrnHeap$Orders", "isOrderEnd", "()Z"⟩
abbrev cX6_keep : ByteArray := prog_8_method_10_code
def yX6_keep : MethodName := ⟨"UrnHeap$Orders", "keep", "(LUrnHeap$Kind;)V"⟩
abbrev cX6_isForNumber : ByteArray := prog_8_method_11_code
def yX6_isForNumber : MethodName := ⟨"UrnHeap$Orders", "isForNumber", "(C)Z"⟩
abbrev cX6_readSign : ByteArray := prog_8_method_12_code
def yX6_readSign : MethodName := ⟨"UrnHeap$Orders", "readSign", "(C)I"⟩
abbrev cX6_valueAt : ByteArray := prog_8_method_13_code
def yX6_valueAt : MethodName := ⟨"UrnHeap$Orders", "valueAt", "(IC)I"⟩
def RX7 : String := "UrnHeap$Paths"
def TX7 : u_T := fun k => match k with
  | 0 => ("UrnHeap$Paths", "heap", "LUrnHeap$Heap;", true)
  | _ => ("UrnHeap$Paths", "weights", "[I", true)
def tyX7 : Nat → FieldType := fun k => match k with
  | 0 => .object "UrnHeap$Heap"
  | _ => .array .int
abbrev wsX70 : List Cond := u_ws "UrnHeap$Paths" TX7 2
theorem nmX7 : ∀ a, a < 2 → ∀ b, b < 2 → a ≠ b → (TX7 a).2.1 ≠ (TX7 b).2.1 := by decide +kernel
theorem tyX7_ok : ∀ k, k < 2 → parseFieldDescriptor (TX7 k).2.2.1 = some (tyX7 k) := by decide +kernel
abbrev cX7_init : ByteArray := prog_9_method_1_code
def yX7_init : MethodName := ⟨"UrnHeap$Paths", "<init>", "(LUrnHeap$Heap;)V"⟩
abbrev cX7_reach : ByteArray := prog_9_method_2_code
def yX7_reach : MethodName := ⟨"UrnHeap$Paths", "reach", "()I"⟩
abbrev cX7_roots : ByteArray := prog_9_method_3_code
def yX7_roots : MethodName := ⟨"UrnHeap$Paths", "roots", "(I)I"⟩
abbrev cX7_reachUrnByUrn : ByteArray := prog_9_method_4_code
def yX7_reachUrnByUrn : MethodName := ⟨"UrnHeap$Paths", "reachUrnByUrn", "()I"⟩
abbrev cX7_distance : ByteArray := prog_9_method_5_code
def yX7_distance : MethodName := ⟨"UrnHeap$Paths", "distance", "(II)I"⟩
abbrev cX7_neededNames : ByteArray := prog_9_method_6_code
def yX7_neededNames : MethodName := ⟨"UrnHeap$Paths", "neededNames", "(I)I"⟩
abbrev cX7_ringLength : ByteArray := prog_9_method_7_code
def yX7_ringLength : MethodName := ⟨"UrnHeap$Paths", "ringLength", "(I)I"⟩
abbrev cX7_leftOver : ByteArray := prog_9_method_8_code
def yX7_leftOver : MethodName := ⟨"UrnHeap$Paths", "leftOver", "()I"⟩
abbrev cX7_urnAtRank : ByteArray := prog_9_method_9_code
def yX7_urnAtRank : MethodName := ⟨"UrnHeap$Paths", "urnAtRank", "(I)I"⟩
abbrev cX7_weighAll : ByteArray := prog_9_method_10_code
def yX7_weighAll : MethodName := ⟨"UrnHeap$Paths", "weighAll", "()V"⟩
abbrev cX7_heavierThan : ByteArray := prog_9_method_11_code
def yX7_heavierThan : MethodName := ⟨"UrnHeap$Paths", "heavierThan", "(I)I"⟩
abbrev cX7_rootsByRite : ByteArray := prog_9_method_12_code
def yX7_rootsByRite : MethodName := ⟨"UrnHeap$Paths", "rootsByRite", "(I)I"⟩
abbrev cX7_reachFrom : ByteArray := prog_9_method_13_code
def yX7_reachFrom : MethodName := ⟨"UrnHeap$Paths", "reachFrom", "(I)I"⟩
abbrev cX7_targetsOfAll : ByteArray := prog_9_method_14_code
def yX7_targetsOfAll : MethodName := ⟨"UrnHeap$Paths", "targetsOfAll", "(I)I"⟩
abbrev cX7_targets : ByteArray := prog_9_method_15_code
def yX7_targets : MethodName := ⟨"UrnHeap$Paths", "targets", "(I)I"⟩
abbrev cX7_isHeldBySome : ByteArray := prog_9_method_16_code
def yX7_isHeldBySome : MethodName := ⟨"UrnHeap$Paths", "isHeldBySome", "(II)Z"⟩
abbrev cX7_bit : ByteArray := prog_9_method_17_code
def yX7_bit : MethodName := ⟨"UrnHeap$Paths", "bit", "(I)I"⟩
abbrev cX7_isIn : ByteArray := prog_9_method_18_code
def yX7_isIn : MethodName := ⟨"UrnHeap$Paths", "isIn", "(II)Z"⟩
def RX8 : String := "UrnHeap$Refusals"
def TX8 : u_T := fun k => match k with
  | 0 => ("UrnHeap$Refusals", "reason", "I", false)
  | _ => ("UrnHeap$Refusals", "detail", "I", false)
def tyX8 : Nat → FieldType := fun k => match k with
  | 0 => .int
  | _ => .int
abbrev wsX80 : List Cond := u_ws "UrnHeap$Refusals" TX8 2
theorem nmX8 : ∀ a, a < 2 → ∀ b, b < 2 → a ≠ b → (TX8 a).2.1 ≠ (TX8 b).2.1 := by decide +kernel
theorem tyX8_ok : ∀ k, k < 2 → parseFieldDescriptor (TX8 k).2.2.1 = some (tyX8 k) := by decide +kernel
abbrev cX8_init : ByteArray := prog_10_method_1_code
def yX8_init : MethodName := ⟨"UrnHeap$Refusals", "<init>", "()V"⟩
abbrev cX8_refuse : ByteArray := prog_10_method_2_code
def yX8_refuse : MethodName := ⟨"UrnHeap$Refusals", "refuse", "(II)I"⟩
def RX9 : String := "UrnHeap$Row"
def TX9 : u_T := fun k => match k with
  | 0 => ("UrnHeap$Row", "urns", "[I", true)
  | _ => ("UrnHeap$Row", "size", "I", false)
def tyX9 : Nat → FieldType := fun k => match k with
  | 0 => .array .int
  | _ => .int
abbrev wsX90 : List Cond := u_ws "UrnHeap$Row" TX9 2
theorem nmX9 : ∀ a, a < 2 → ∀ b, b < 2 → a ≠ b → (TX9 a).2.1 ≠ (TX9 b).2.1 := by decide +kernel
theorem tyX9_ok : ∀ k, k < 2 → parseFieldDescriptor (TX9 k).2.2.1 = some (tyX9 k) := by decide +kernel
abbrev cX9_init : ByteArray := prog_11_method_1_code
def yX9_init : MethodName := ⟨"UrnHeap$Row", "<init>", "()V"⟩
abbrev cX9_addLast : ByteArray := prog_11_method_2_code
def yX9_addLast : MethodName := ⟨"UrnHeap$Row", "addLast", "(I)V"⟩
abbrev cX9_takeFirst : ByteArray := prog_11_method_3_code
def yX9_takeFirst : MethodName := ⟨"UrnHeap$Row", "takeFirst", "()I"⟩
abbrev cX9_at : ByteArray := prog_11_method_4_code
def yX9_at : MethodName := ⟨"UrnHeap$Row", "at", "(I)I"⟩
abbrev cX9_copyFrom : ByteArray := prog_11_method_5_code
def yX9_copyFrom : MethodName := ⟨"UrnHeap$Row", "copyFrom", "(LUrnHeap$Row;)V"⟩
def RX10 : String := "UrnHeap$Sexton"
def TX10 : u_T := fun k => match k with
  | 0 => ("UrnHeap$Sexton", "heap", "LUrnHeap$Heap;", true)
  | _ => ("UrnHeap$Sexton", "refusals", "LUrnHeap$Refusals;", true)
def tyX10 : Nat → FieldType := fun k => match k with
  | 0 => .object "UrnHeap$Heap"
  | _ => .object "UrnHeap$Refusals"
abbrev wsX100 : List Cond := u_ws "UrnHeap$Sexton" TX10 2
theorem nmX10 : ∀ a, a < 2 → ∀ b, b < 2 → a ≠ b → (TX10 a).2.1 ≠ (TX10 b).2.1 := by decide +kernel
theorem tyX10_ok : ∀ k, k < 2 → parseFieldDescriptor (TX10 k).2.2.1 = some (tyX10 k) := by decide +kernel
abbrev cX10_init : ByteArray := prog_12_method_1_code
def yX10_init : MethodName := ⟨"UrnHeap$Sexton", "<init>", "(LUrnHeap$Heap;LUrnHeap$Refusals;)V"⟩
abbrev cX10_beginRound : ByteArray := prog_12_method_2_code
def yX10_beginRound : MethodName := ⟨"UrnHeap$Sexton", "beginRound", "()I"⟩
abbrev cX10_doParts : ByteArray := prog_12_method_3_code
def yX10_doParts : MethodName := ⟨"UrnHeap$Sexton", "doParts", "(I)I"⟩
abbrev cX10_endRound : ByteArray := prog_12_method_4_code
def yX10_endRound : MethodName := ⟨"UrnHeap$Sexton", "endRound", "()I"⟩
abbrev cX10_doRite : ByteArray := prog_12_method_5_code
def yX10_doRite : MethodName := ⟨"UrnHeap$Sexton", "doRite", "()I"⟩
abbrev cX10_markRoots : ByteArray := prog_12_method_6_code
def yX10_markRoots : MethodName := ⟨"UrnHeap$Sexton", "markRoots", "()V"⟩
abbrev cX10_doPartsUntilOver : ByteArray := prog_12_method_7_code
def yX10_doPartsUntilOver : MethodName := ⟨"UrnHeap$Sexton", "doPartsUntilOver", "(I)I"⟩
abbrev cX10_blackenFirst : ByteArray := prog_12_method_8_code
def yX10_blackenFirst : MethodName := ⟨"UrnHeap$Sexton", "blackenFirst", "()V"⟩
abbrev cX10_makeRitesDue : ByteArray := prog_12_method_9_code
def yX10_makeRitesDue : MethodName := ⟨"UrnHeap$Sexton", "makeRitesDue", "()Z"⟩
abbrev cX10_beginSweep : ByteArray := prog_12_method_10_code
def yX10_beginSweep : MethodName := ⟨"UrnHeap$Sexton", "beginSweep", "()V"⟩
abbrev cX10_sweepNext : ByteArray := prog_12_method_11_code
def yX10_sweepNext : MethodName := ⟨"UrnHeap$Sexton", "sweepNext", "()V"⟩
def RX11 : String := "UrnHeap"
def TX11 : u_T := fun k => match k with
  | 0 => ("UrnHeap", "heap", "LUrnHeap$Heap;", true)
  | 1 => ("UrnHeap", "refusals", "LUrnHeap$Refusals;", true)
  | 2 => ("UrnHeap", "hands", "LUrnHeap$Hands;", true)
  | 3 => ("UrnHeap", "sexton", "LUrnHeap$Sexton;", true)
  | 4 => ("UrnHeap", "paths", "LUrnHeap$Paths;", true)
  | 5 => ("UrnHeap", "history", "LUrnHeap$History;", true)
  | 6 => ("UrnHeap", "orders", "LUrnHeap$Orders;", true)
  | _ => ("UrnHeap", "line", "LUrnHeap$Line;", true)
def tyX11 : Nat → FieldType := fun k => match k with
  | 0 => .object "UrnHeap$Heap"
  | 1 => .object "UrnHeap$Refusals"
  | 2 => .object "UrnHeap$Hands"
  | 3 => .object "UrnHeap$Sexton"
  | 4 => .object "UrnHeap$Paths"
  | 5 => .object "UrnHeap$History"
  | 6 => .object "UrnHeap$Orders"
  | _ => .object "UrnHeap$Line"
abbrev wsX110 : List Cond := u_ws "UrnHeap" TX11 8
theorem nmX11 : ∀ a, a < 8 → ∀ b, b < 8 → a ≠ b → (TX11 a).2.1 ≠ (TX11 b).2.1 := by decide +kernel
theorem tyX11_ok : ∀ k, k < 8 → parseFieldDescriptor (TX11 k).2.2.1 = some (tyX11 k) := by decide +kernel
abbrev cX11_init : ByteArray := prog_1_method_1_code
def yX11_init : MethodName := ⟨"UrnHeap", "<init>", "()V"⟩
abbrev cX11_urn : ByteArray := prog_1_method_2_code
def yX11_urn : MethodName := ⟨"UrnHeap", "urn", "(Z)I"⟩
abbrev cX11_tie : ByteArray := prog_1_method_3_code
def yX11_tie : MethodName := ⟨"UrnHeap", "tie", "(III)I"⟩
abbrev cX11_untie : ByteArray := prog_1_method_4_code
def yX11_untie : MethodName := ⟨"UrnHeap", "untie", "(II)I"⟩
abbrev cX11_weak : ByteArray := prog_1_method_5_code
def yX11_weak : MethodName := ⟨"UrnHeap", "weak", "(II)I"⟩
abbrev cX11_unweak : ByteArray := prog_1_method_6_code
def yX11_unweak : MethodName := ⟨"UrnHeap", "unweak", "(I)I"⟩
abbrev cX11_name : ByteArray := prog_1_method_7_code
def yX11_name : MethodName := ⟨"UrnHeap", "name", "(II)I"⟩
abbrev cX11_drop : ByteArray := prog_1_method_8_code
def yX11_drop : MethodName := ⟨"UrnHeap", "drop", "(I)I"⟩
abbrev cX11_urnOf : ByteArray := prog_1_method_9_code
def yX11_urnOf : MethodName := ⟨"UrnHeap", "urnOf", "(II)I"⟩
abbrev cX11_threadOf : ByteArray := prog_1_method_10_code
def yX11_threadOf : MethodName := ⟨"UrnHeap", "threadOf", "(II)I"⟩
abbrev cX11_named : ByteArray := prog_1_method_11_code
def yX11_named : MethodName := ⟨"UrnHeap", "named", "(I)I"⟩
abbrev cX11_begin : ByteArray := prog_1_method_12_code
def yX11_begin : MethodName := ⟨"UrnHeap", "begin", "()I"⟩
abbrev cX11_step : ByteArray := prog_1_method_13_code
def yX11_step : MethodName := ⟨"UrnHeap", "step", "(I)I"⟩
abbrev cX11_round : ByteArray := prog_1_method_14_code
def yX11_round : MethodName := ⟨"UrnHeap", "round", "()I"⟩
abbrev cX11_rite : ByteArray := prog_1_method_15_code
def yX11_rite : MethodName := ⟨"UrnHeap", "rite", "()I"⟩
abbrev cX11_due : ByteArray := prog_1_method_16_code
def yX11_due : MethodName := ⟨"UrnHeap", "due", "(I)I"⟩
abbrev cX11_grey : ByteArray := prog_1_method_17_code
def yX11_grey : MethodName := ⟨"UrnHeap", "grey", "(I)I"⟩
abbrev cX11_freed : ByteArray := prog_1_method_18_code
def yX11_freed : MethodName := ⟨"UrnHeap", "freed", "(I)I"⟩
abbrev cX11_live : ByteArray := prog_1_method_19_code
def yX11_live : MethodName := ⟨"UrnHeap", "live", "()I"⟩
abbrev cX11_liveAgain : ByteArray := prog_1_method_20_code
def yX11_liveAgain : MethodName := ⟨"UrnHeap", "liveAgain", "()I"⟩
abbrev cX11_depth : ByteArray := prog_1_method_21_code
def yX11_depth : MethodName := ⟨"UrnHeap", "depth", "(I)I"⟩
abbrev cX11_keepers : ByteArray := prog_1_method_22_code
def yX11_keepers : MethodName := ⟨"UrnHeap", "keepers", "(I)I"⟩
abbrev cX11_ring : ByteArray := prog_1_method_23_code
def yX11_ring : MethodName := ⟨"UrnHeap", "ring", "(I)I"⟩
abbrev cX11_wouldFree : ByteArray := prog_1_method_24_code
def yX11_wouldFree : MethodName := ⟨"UrnHeap", "wouldFree", "()I"⟩
abbrev cX11_ranked : ByteArray := prog_1_method_25_code
def yX11_ranked : MethodName := ⟨"UrnHeap", "ranked", "(I)I"⟩
abbrev cX11_append : ByteArray := prog_1_method_26_code
def yX11_append : MethodName := ⟨"UrnHeap", "append", "(I)I"⟩
abbrev cX11_run : ByteArray := prog_1_method_27_code
def yX11_run : MethodName := ⟨"UrnHeap", "run", "()I"⟩
abbrev cX11_account : ByteArray := prog_1_method_32_code
def yX11_account : MethodName := ⟨"UrnHeap", "account", "(I)I"⟩
abbrev cX11_isBalanced : ByteArray := prog_1_method_33_code
def yX11_isBalanced : MethodName := ⟨"UrnHeap", "isBalanced", "()I"⟩
abbrev cX11_meanHeld : ByteArray := prog_1_method_34_code
def yX11_meanHeld : MethodName := ⟨"UrnHeap", "meanHeld", "()D"⟩
abbrev cX11_liveShare : ByteArray := prog_1_method_35_code
def yX11_liveShare : MethodName := ⟨"UrnHeap", "liveShare", "()F"⟩
abbrev cX11_undo : ByteArray := prog_1_method_36_code
def yX11_undo : MethodName := ⟨"UrnHeap", "undo", "()I"⟩
abbrev cX11_save : ByteArray := prog_1_method_37_code
def yX11_save : MethodName := ⟨"UrnHeap", "save", "()I"⟩
abbrev cX11_restore : ByteArray := prog_1_method_38_code
def yX11_restore : MethodName := ⟨"UrnHeap", "restore", "()I"⟩
abbrev cX11_carryOut : ByteArray := prog_1_method_39_code
def yX11_carryOut : MethodName := ⟨"UrnHeap", "carryOut", "(I)I"⟩
abbrev cX11_isCell : ByteArray := prog_1_method_40_code
def yX11_isCell : MethodName := ⟨"UrnHeap", "isCell", "(I)Z"⟩
abbrev cX11_isSlot : ByteArray := prog_1_method_41_code
def yX11_isSlot : MethodName := ⟨"UrnHeap", "isSlot", "(I)Z"⟩
abbrev cX11_isName : ByteArray := prog_1_method_42_code
def yX11_isName : MethodName := ⟨"UrnHeap", "isName", "(I)Z"⟩
def RX12 : String := "UrnHeapModel"
def TX12 : u_T := fun k => match k with
  | _ => ("", "", "", false)
def tyX12 : Nat → FieldType := fun k => match k with
  | _ => .int
abbrev wsX120 : List Cond := u_ws "UrnHeapModel" TX12 0
theorem nmX12 : ∀ a, a < 0 → ∀ b, b < 0 → a ≠ b → (TX12 a).2.1 ≠ (TX12 b).2.1 := by decide +kernel
theorem tyX12_ok : ∀ k, k < 0 → parseFieldDescriptor (TX12 k).2.2.1 = some (tyX12 k) := by decide +kernel
def RJx145de : String := "java/io/Serializable"
def TJx145de : u_T := fun k => match k with
  | _ => ("", "", "", false)
def tyJx145de : Nat → FieldType := fun k => match k with
  | _ => .int
abbrev wsJx145de0 : List Cond := u_ws "java/io/Serializable" TJx145de 0
theorem nmJx145de : ∀ a, a < 0 → ∀ b, b < 0 → a ≠ b → (TJx145de a).2.1 ≠ (TJx145de b).2.1 := by decide +kernel
theorem tyJx145de_ok : ∀ k, k < 0 → parseFieldDescriptor (TJx145de k).2.2.1 = some (tyJx145de k) := by decide +kernel
def RJ5 : String := "java/lang/AbstractStringBuilder"
def TJ5 : u_T := fun k => match k with
  | _ => ("", "", "", false)
def tyJ5 : Nat → FieldType := fun k => match k with
  | _ => .int
abbrev wsJ50 : List Cond := u_ws "java/lang/AbstractStringBuilder" TJ5 0
theorem nmJ5 : ∀ a, a < 0 → ∀ b, b < 0 → a ≠ b → (TJ5 a).2.1 ≠ (TJ5 b).2.1 := by decide +kernel
theorem tyJ5_ok : ∀ k, k < 0 → parseFieldDescriptor (TJ5 k).2.2.1 = some (tyJ5 k) := by decide +kernel
abbrev cJ5_init_d00df : ByteArray := prog_15_method_2_code
def yJ5_init_d00df : MethodName := ⟨"java/lang/AbstractStringBuilder", "<init>", "(I)V"⟩
abbrev cJ5_length_8abf5 : ByteArray := prog_15_method_6_code
def yJ5_length_8abf5 : MethodName := ⟨"java/lang/AbstractStringBuilder", "length", "()I"⟩
abbrev cJ5_ensureCapacityInternal_d00df : ByteArray := prog_15_method_9_code
def yJ5_ensureCapacityInternal_d00df : MethodName := ⟨"java/lang/AbstractStringBuilder", "ensureCapacityInternal", "(I)V"⟩
abbrev cJ5_newCapacity_0f7a4 : ByteArray := prog_15_method_10_code
def yJ5_newCapacity_0f7a4 : MethodName := ⟨"java/lang/AbstractStringBuilder", "newCapacity", "(I)I"⟩
abbrev cJ5_inflate_da8c8 : ByteArray := prog_15_method_11_code
def yJ5_inflate_da8c8 : MethodName := ⟨"java/lang/AbstractStringBuilder", "inflate", "()V"⟩
abbrev cJ5_setLength_d00df : ByteArray := prog_15_method_13_code
def yJ5_setLength_d00df : MethodName := ⟨"java/lang/AbstractStringBuilder", "setLength", "(I)V"⟩
abbrev cJ5_charAt_5068e : ByteArray := prog_15_method_14_code
def yJ5_charAt_5068e : MethodName := ⟨"java/lang/AbstractStringBuilder", "charAt", "(I)C"⟩
abbrev cJ5_append_cf1ce : ByteArray := prog_15_method_22_code
def yJ5_append_cf1ce : MethodName := ⟨"java/lang/AbstractStringBuilder", "append", "(Ljava/lang/String;)Ljava/lang/AbstractStringBuilder;"⟩
abbrev cJ5_appendNull_278bc : ByteArray := prog_15_method_26_code
def yJ5_appendNull_278bc : MethodName := ⟨"java/lang/AbstractStringBuilder", "appendNull", "()Ljava/lang/AbstractStringBuilder;"⟩
abbrev cJ5_append_3fe6f : ByteArray := prog_15_method_31_code
def yJ5_append_3fe6f : MethodName := ⟨"java/lang/AbstractStringBuilder", "append", "(C)Ljava/lang/AbstractStringBuilder;"⟩
abbrev cJ5_append_c97b9 : ByteArray := prog_15_method_32_code
def yJ5_append_c97b9 : MethodName := ⟨"java/lang/AbstractStringBuilder", "append", "(I)Ljava/lang/AbstractStringBuilder;"⟩
abbrev cJ5_getValue_6d5f1 : ByteArray := prog_15_method_64_code
def yJ5_getValue_6d5f1 : MethodName := ⟨"java/lang/AbstractStringBuilder", "getValue", "()[B"⟩
abbrev cJ5_isLatin1_aae02 : ByteArray := prog_15_method_68_code
def yJ5_isLatin1_aae02 : MethodName := ⟨"java/lang/AbstractStringBuilder", "isLatin1", "()Z"⟩
abbrev cJ5_inflateIfNeededFor_a7421 : ByteArray := prog_15_method_71_code
def yJ5_inflateIfNeededFor_a7421 : MethodName := ⟨"java/lang/AbstractStringBuilder", "inflateIfNeededFor", "(Ljava/lang/String;)V"⟩
abbrev cJ5_putStringAt_47b60 : ByteArray := prog_15_method_73_code
def yJ5_putStringAt_47b60 : MethodName := ⟨"java/lang/AbstractStringBuilder", "putStringAt", "(ILjava/lang/String;)V"⟩
def RJx2cfe8 : String := "java/lang/Appendable"
def TJx2cfe8 : u_T := fun k => match k with
  | _ => ("", "", "", false)
def tyJx2cfe8 : Nat → FieldType := fun k => match k with
  | _ => .int
abbrev wsJx2cfe80 : List Cond := u_ws "java/lang/Appendable" TJx2cfe8 0
theorem nmJx2cfe8 : ∀ a, a < 0 → ∀ b, b < 0 → a ≠ b → (TJx2cfe8 a).2.1 ≠ (TJx2cfe8 b).2.1 := by decide +kernel
theorem tyJx2cfe8_ok : ∀ k, k < 0 → parseFieldDescriptor (TJx2cfe8 k).2.2.1 = some (tyJx2cfe8 k) := by decide +kernel
def RJx9f9b0 : String := "java/lang/CharSequence"
def TJx9f9b0 : u_T := fun k => match k with
  | _ => ("", "", "", false)
def tyJx9f9b0 : Nat → FieldType := fun k => match k with
  | _ => .int
abbrev wsJx9f9b00 : List Cond := u_ws "java/lang/CharSequence" TJx9f9b0 0
theorem nmJx9f9b0 : ∀ a, a < 0 → ∀ b, b < 0 → a ≠ b → (TJx9f9b0 a).2.1 ≠ (TJx9f9b0 b).2.1 := by decide +kernel
theorem tyJx9f9b0_ok : ∀ k, k < 0 → parseFieldDescriptor (TJx9f9b0 k).2.2.1 = some (tyJx9f9b0 k) := by decide +kernel
def RJx8e188 : String := "java/lang/Cloneable"
def TJx8e188 : u_T := fun k => match k with
  | _ => ("", "", "", false)
def tyJx8e188 : Nat → FieldType := fun k => match k with
  | _ => .int
abbrev wsJx8e1880 : List Cond := u_ws "java/lang/Cloneable" TJx8e188 0
theorem nmJx8e188 : ∀ a, a < 0 → ∀ b, b < 0 → a ≠ b → (TJx8e188 a).2.1 ≠ (TJx8e188 b).2.1 := by decide +kernel
theorem tyJx8e188_ok : ∀ k, k < 0 → parseFieldDescriptor (TJx8e188 k).2.2.1 = some (tyJx8e188 k) := by decide +kernel
def RJxb160c : String := "java/lang/Comparable"
def TJxb160c : u_T := fun k => match k with
  | _ => ("", "", "", false)
def tyJxb160c : Nat → FieldType := fun k => match k with
  | _ => .int
abbrev wsJxb160c0 : List Cond := u_ws "java/lang/Comparable" TJxb160c 0
theorem nmJxb160c : ∀ a, a < 0 → ∀ b, b < 0 → a ≠ b → (TJxb160c a).2.1 ≠ (TJxb160c b).2.1 := by decide +kernel
theorem tyJxb160c_ok : ∀ k, k < 0 → parseFieldDescriptor (TJxb160c k).2.2.1 = some (tyJxb160c k) := by decide +kernel
def RJx29ce0 : String := "java/lang/Enum"
def TJx29ce0 : u_T := fun k => match k with
  | _ => ("", "", "", false)
def tyJx29ce0 : Nat → FieldType := fun k => match k with
  | _ => .int
abbrev wsJx29ce00 : List Cond := u_ws "java/lang/Enum" TJx29ce0 0
theorem nmJx29ce0 : ∀ a, a < 0 → ∀ b, b < 0 → a ≠ b → (TJx29ce0 a).2.1 ≠ (TJx29ce0 b).2.1 := by decide +kernel
theorem tyJx29ce0_ok : ∀ k, k < 0 → parseFieldDescriptor (TJx29ce0 k).2.2.1 = some (tyJx29ce0 k) := by decide +kernel
abbrev cJx29ce0_ordinal_8abf5 : ByteArray := prog_17_method_2_code
def yJx29ce0_ordinal_8abf5 : MethodName := ⟨"java/lang/Enum", "ordinal", "()I"⟩
def RJ6 : String := "java/lang/Integer"
def TJ6 : u_T := fun k => match k with
  | _ => ("", "", "", false)
def tyJ6 : Nat → FieldType := fun k => match k with
  | _ => .int
abbrev wsJ60 : List Cond := u_ws "java/lang/Integer" TJ6 0
theorem nmJ6 : ∀ a, a < 0 → ∀ b, b < 0 → a ≠ b → (TJ6 a).2.1 ≠ (TJ6 b).2.1 := by decide +kernel
theorem tyJ6_ok : ∀ k, k < 0 → parseFieldDescriptor (TJ6 k).2.2.1 = some (tyJ6 k) := by decide +kernel
abbrev cJ6_getChars_ba4f3 : ByteArray := prog_18_method_12_code
def yJ6_getChars_ba4f3 : MethodName := ⟨"java/lang/Integer", "getChars", "(II[B)I"⟩
abbrev cJ6_stringSize_0f7a4 : ByteArray := prog_18_method_13_code
def yJ6_stringSize_0f7a4 : MethodName := ⟨"java/lang/Integer", "stringSize", "(I)I"⟩
abbrev cJ6_bitCount_0f7a4 : ByteArray := prog_18_method_49_code
def yJ6_bitCount_0f7a4 : MethodName := ⟨"java/lang/Integer", "bitCount", "(I)I"⟩
def RJ9 : String := "java/lang/Math"
def TJ9 : u_T := fun k => match k with
  | _ => ("", "", "", false)
def tyJ9 : Nat → FieldType := fun k => match k with
  | _ => .int
abbrev wsJ90 : List Cond := u_ws "java/lang/Math" TJ9 0
theorem nmJ9 : ∀ a, a < 0 → ∀ b, b < 0 → a ≠ b → (TJ9 a).2.1 ≠ (TJ9 b).2.1 := by decide +kernel
theorem tyJ9_ok : ∀ k, k < 0 → parseFieldDescriptor (TJ9 k).2.2.1 = some (tyJ9 k) := by decide +kernel
abbrev cJ9_floorMod_7cf53 : ByteArray := prog_19_method_50_code
def yJ9_floorMod_7cf53 : MethodName := ⟨"java/lang/Math", "floorMod", "(II)I"⟩
abbrev cJ9_max_7cf53 : ByteArray := prog_19_method_65_code
def yJ9_max_7cf53 : MethodName := ⟨"java/lang/Math", "max", "(II)I"⟩
abbrev cJ9_min_7cf53 : ByteArray := prog_19_method_69_code
def yJ9_min_7cf53 : MethodName := ⟨"java/lang/Math", "min", "(II)I"⟩
def RJxd2413 : String := "java/lang/Number"
def TJxd2413 : u_T := fun k => match k with
  | _ => ("", "", "", false)
def tyJxd2413 : Nat → FieldType := fun k => match k with
  | _ => .int
abbrev wsJxd24130 : List Cond := u_ws "java/lang/Number" TJxd2413 0
theorem nmJxd2413 : ∀ a, a < 0 → ∀ b, b < 0 → a ≠ b → (TJxd2413 a).2.1 ≠ (TJxd2413 b).2.1 := by decide +kernel
theorem tyJxd2413_ok : ∀ k, k < 0 → parseFieldDescriptor (TJxd2413 k).2.2.1 = some (tyJxd2413 k) := by decide +kernel
def RJ0 : String := "java/lang/String"
def TJ0 : u_T := fun k => match k with
  | 0 => ("java/lang/String", "value", "[B", true)
  | 1 => ("java/lang/String", "coder", "B", true)
  | 2 => ("java/lang/String", "hash", "I", false)
  | _ => ("java/lang/String", "hashIsZero", "Z", false)
def tyJ0 : Nat → FieldType := fun k => match k with
  | 0 => .array .byte
  | 1 => .byte
  | 2 => .int
  | _ => .boolean
abbrev wsJ00 : List Cond := u_ws "java/lang/String" TJ0 4
theorem nmJ0 : ∀ a, a < 4 → ∀ b, b < 4 → a ≠ b → (TJ0 a).2.1 ≠ (TJ0 b).2.1 := by decide +kernel
theorem tyJ0_ok : ∀ k, k < 4 → parseFieldDescriptor (TJ0 k).2.2.1 = some (tyJ0 k) := by decide +kernel
abbrev cJ0_init_81219 : ByteArray := prog_21_method_53_code
def yJ0_init_81219 : MethodName := ⟨"java/lang/String", "<init>", "(Ljava/lang/StringBuilder;)V"⟩
abbrev cJ0_length_8abf5 : ByteArray := prog_21_method_54_code
def yJ0_length_8abf5 : MethodName := ⟨"java/lang/String", "length", "()I"⟩
abbrev cJ0_charAt_5068e : ByteArray := prog_21_method_56_code
def yJ0_charAt_5068e : MethodName := ⟨"java/lang/String", "charAt", "(I)C"⟩
abbrev cJ0_getBytes_840e7 : ByteArray := prog_21_method_147_code
def yJ0_getBytes_840e7 : MethodName := ⟨"java/lang/String", "getBytes", "([BIB)V"⟩
abbrev cJ0_init_db425 : ByteArray := prog_21_method_150_code
def yJ0_init_db425 : MethodName := ⟨"java/lang/String", "<init>", "(Ljava/lang/AbstractStringBuilder;Ljava/lang/Void;)V"⟩
abbrev cJ0_coder_7d493 : ByteArray := prog_21_method_152_code
def yJ0_coder_7d493 : MethodName := ⟨"java/lang/String", "coder", "()B"⟩
abbrev cJ0_isLatin1_aae02 : ByteArray := prog_21_method_154_code
def yJ0_isLatin1_aae02 : MethodName := ⟨"java/lang/String", "isLatin1", "()Z"⟩
abbrev cJ0_checkIndex_df160 : ByteArray := prog_21_method_155_code
def yJ0_checkIndex_df160 : MethodName := ⟨"java/lang/String", "checkIndex", "(II)V"⟩
abbrev cJ0_checkBoundsOffCount_cabcc : ByteArray := prog_21_method_157_code
def yJ0_checkBoundsOffCount_cabcc : MethodName := ⟨"java/lang/String", "checkBoundsOffCount", "(III)I"⟩
abbrev cJ0_checkBoundsBeginEnd_23922 : ByteArray := prog_21_method_158_code
def yJ0_checkBoundsBeginEnd_23922 : MethodName := ⟨"java/lang/String", "checkBoundsBeginEnd", "(III)V"⟩
def RJ4 : String := "java/lang/StringBuilder"
def TJ4 : u_T := fun k => match k with
  | 0 => ("java/lang/AbstractStringBuilder", "value", "[B", false)
  | 1 => ("java/lang/AbstractStringBuilder", "coder", "B", false)
  | 2 => ("java/lang/AbstractStringBuilder", "maybeLatin1", "Z", false)
  | _ => ("java/lang/AbstractStringBuilder", "count", "I", false)
def tyJ4 : Nat → FieldType := fun k => match k with
  | 0 => .array .byte
  | 1 => .byte
  | 2 => .boolean
  | _ => .int
abbrev wsJ40 : List Cond := u_ws "java/lang/StringBuilder" TJ4 4
theorem nmJ4 : ∀ a, a < 4 → ∀ b, b < 4 → a ≠ b → (TJ4 a).2.1 ≠ (TJ4 b).2.1 := by decide +kernel
theorem tyJ4_ok : ∀ k, k < 4 → parseFieldDescriptor (TJ4 k).2.2.1 = some (tyJ4 k) := by decide +kernel
abbrev cJ4_init_da8c8 : ByteArray := prog_22_method_1_code
def yJ4_init_da8c8 : MethodName := ⟨"java/lang/StringBuilder", "<init>", "()V"⟩
abbrev cJ4_append_15ec4 : ByteArray := prog_22_method_7_code
def yJ4_append_15ec4 : MethodName := ⟨"java/lang/StringBuilder", "append", "(Ljava/lang/String;)Ljava/lang/StringBuilder;"⟩
abbrev cJ4_append_cf468 : ByteArray := prog_22_method_14_code
def yJ4_append_cf468 : MethodName := ⟨"java/lang/StringBuilder", "append", "(C)Ljava/lang/StringBuilder;"⟩
abbrev cJ4_append_bf812 : ByteArray := prog_22_method_15_code
def yJ4_append_bf812 : MethodName := ⟨"java/lang/StringBuilder", "append", "(I)Ljava/lang/StringBuilder;"⟩
abbrev cJ4_toString_0e30d : ByteArray := prog_22_method_42_code
def yJ4_toString_0e30d : MethodName := ⟨"java/lang/StringBuilder", "toString", "()Ljava/lang/String;"⟩
abbrev cJ4_charAt_5068e : ByteArray := prog_22_method_88_code
def yJ4_charAt_5068e : MethodName := ⟨"java/lang/StringBuilder", "charAt", "(I)C"⟩
abbrev cJ4_setLength_d00df : ByteArray := prog_22_method_89_code
def yJ4_setLength_d00df : MethodName := ⟨"java/lang/StringBuilder", "setLength", "(I)V"⟩
abbrev cJ4_length_8abf5 : ByteArray := prog_22_method_93_code
def yJ4_length_8abf5 : MethodName := ⟨"java/lang/StringBuilder", "length", "()I"⟩
def RJ1 : String := "java/lang/StringLatin1"
def TJ1 : u_T := fun k => match k with
  | _ => ("", "", "", false)
def tyJ1 : Nat → FieldType := fun k => match k with
  | _ => .int
abbrev wsJ10 : List Cond := u_ws "java/lang/StringLatin1" TJ1 0
theorem nmJ1 : ∀ a, a < 0 → ∀ b, b < 0 → a ≠ b → (TJ1 a).2.1 ≠ (TJ1 b).2.1 := by decide +kernel
theorem tyJ1_ok : ∀ k, k < 0 → parseFieldDescriptor (TJ1 k).2.2.1 = some (tyJ1 k) := by decide +kernel
abbrev cJ1_charAt_3b067 : ByteArray := prog_23_method_2_code
def yJ1_charAt_3b067 : MethodName := ⟨"java/lang/StringLatin1", "charAt", "([BI)C"⟩
abbrev cJ1_canEncode_fc78d : ByteArray := prog_23_method_3_code
def yJ1_canEncode_fc78d : MethodName := ⟨"java/lang/StringLatin1", "canEncode", "(C)Z"⟩
abbrev cJ1_fillNull_b72d1 : ByteArray := prog_23_method_48_code
def yJ1_fillNull_b72d1 : MethodName := ⟨"java/lang/StringLatin1", "fillNull", "([BII)V"⟩
abbrev cJ1_inflate_0e8fd : ByteArray := prog_23_method_50_code
def yJ1_inflate_0e8fd : MethodName := ⟨"java/lang/StringLatin1", "inflate", "([BI[BII)V"⟩
def RJ2 : String := "java/lang/StringUTF16"
def TJ2 : u_T := fun k => match k with
  | _ => ("", "", "", false)
def tyJ2 : Nat → FieldType := fun k => match k with
  | _ => .int
abbrev wsJ20 : List Cond := u_ws "java/lang/StringUTF16" TJ2 0
theorem nmJ2 : ∀ a, a < 0 → ∀ b, b < 0 → a ≠ b → (TJ2 a).2.1 ≠ (TJ2 b).2.1 := by decide +kernel
theorem tyJ2_ok : ∀ k, k < 0 → parseFieldDescriptor (TJ2 k).2.2.1 = some (tyJ2 k) := by decide +kernel
abbrev cJ2_newBytesFor_77867 : ByteArray := prog_24_method_2_code
def yJ2_newBytesFor_77867 : MethodName := ⟨"java/lang/StringUTF16", "newBytesFor", "(I)[B"⟩
abbrev cJ2_newBytesLength_0f7a4 : ByteArray := prog_24_method_3_code
def yJ2_newBytesLength_0f7a4 : MethodName := ⟨"java/lang/StringUTF16", "newBytesLength", "(I)I"⟩
abbrev cJ2_putChar_b72d1 : ByteArray := prog_24_method_4_code
def yJ2_putChar_b72d1 : MethodName := ⟨"java/lang/StringUTF16", "putChar", "([BII)V"⟩
abbrev cJ2_getChar_3b067 : ByteArray := prog_24_method_5_code
def yJ2_getChar_3b067 : MethodName := ⟨"java/lang/StringUTF16", "getChar", "([BI)C"⟩
abbrev cJ2_length_9d52b : ByteArray := prog_24_method_6_code
def yJ2_length_9d52b : MethodName := ⟨"java/lang/StringUTF16", "length", "([B)I"⟩
abbrev cJ2_coderFromArrayLen_85cad : ByteArray := prog_24_method_15_code
def yJ2_coderFromArrayLen_85cad : MethodName := ⟨"java/lang/StringUTF16", "coderFromArrayLen", "([BI)B"⟩
abbrev cJ2_compress_39247 : ByteArray := prog_24_method_17_code
def yJ2_compress_39247 : MethodName := ⟨"java/lang/StringUTF16", "compress", "([BII)[B"⟩
abbrev cJ2_compress_5af95 : ByteArray := prog_24_method_22_code
def yJ2_compress_5af95 : MethodName := ⟨"java/lang/StringUTF16", "compress", "([BI[BII)I"⟩
abbrev cJ2_fillNull_b72d1 : ByteArray := prog_24_method_70_code
def yJ2_fillNull_b72d1 : MethodName := ⟨"java/lang/StringUTF16", "fillNull", "([BII)V"⟩
abbrev cJ2_putCharSB_b72d1 : ByteArray := prog_24_method_71_code
def yJ2_putCharSB_b72d1 : MethodName := ⟨"java/lang/StringUTF16", "putCharSB", "([BII)V"⟩
abbrev cJ2_getChars_46870 : ByteArray := prog_24_method_77_code
def yJ2_getChars_46870 : MethodName := ⟨"java/lang/StringUTF16", "getChars", "(III[B)I"⟩
abbrev cJ2_putCharsAt_cd4e5 : ByteArray := prog_24_method_81_code
def yJ2_putCharsAt_cd4e5 : MethodName := ⟨"java/lang/StringUTF16", "putCharsAt", "([BICCCC)I"⟩
abbrev cJ2_charAt_3b067 : ByteArray := prog_24_method_83_code
def yJ2_charAt_3b067 : MethodName := ⟨"java/lang/StringUTF16", "charAt", "([BI)C"⟩
abbrev cJ2_inflate_0e8fd : ByteArray := prog_24_method_86_code
def yJ2_inflate_0e8fd : MethodName := ⟨"java/lang/StringUTF16", "inflate", "([BI[BII)V"⟩
abbrev cJ2_getChars_ba4f3 : ByteArray := prog_24_method_89_code
def yJ2_getChars_ba4f3 : MethodName := ⟨"java/lang/StringUTF16", "getChars", "(II[B)I"⟩
abbrev cJ2_checkIndex_2214a : ByteArray := prog_24_method_91_code
def yJ2_checkIndex_2214a : MethodName := ⟨"java/lang/StringUTF16", "checkIndex", "(I[B)V"⟩
abbrev cJ2_checkBoundsBeginEnd_d044e : ByteArray := prog_24_method_93_code
def yJ2_checkBoundsBeginEnd_d044e : MethodName := ⟨"java/lang/StringUTF16", "checkBoundsBeginEnd", "(II[B)V"⟩
abbrev cJ2_checkBoundsOffCount_d044e : ByteArray := prog_24_method_94_code
def yJ2_checkBoundsOffCount_d044e : MethodName := ⟨"java/lang/StringUTF16", "checkBoundsOffCount", "(II[B)V"⟩
def RJ10 : String := "java/lang/System"
def TJ10 : u_T := fun k => match k with
  | _ => ("", "", "", false)
def tyJ10 : Nat → FieldType := fun k => match k with
  | _ => .int
abbrev wsJ100 : List Cond := u_ws "java/lang/System" TJ10 0
theorem nmJ10 : ∀ a, a < 0 → ∀ b, b < 0 → a ≠ b → (TJ10 a).2.1 ≠ (TJ10 b).2.1 := by decide +kernel
theorem tyJ10_ok : ∀ k, k < 0 → parseFieldDescriptor (TJ10 k).2.2.1 = some (tyJ10 k) := by decide +kernel
def RJxfd54e : String := "java/lang/constant/Constable"
def TJxfd54e : u_T := fun k => match k with
  | _ => ("", "", "", false)
def tyJxfd54e : Nat → FieldType := fun k => match k with
  | _ => .int
abbrev wsJxfd54e0 : List Cond := u_ws "java/lang/constant/Constable" TJxfd54e 0
theorem nmJxfd54e : ∀ a, a < 0 → ∀ b, b < 0 → a ≠ b → (TJxfd54e a).2.1 ≠ (TJxfd54e b).2.1 := by decide +kernel
theorem tyJxfd54e_ok : ∀ k, k < 0 → parseFieldDescriptor (TJxfd54e k).2.2.1 = some (tyJxfd54e k) := by decide +kernel
def RJx3cf43 : String := "java/lang/constant/ConstantDesc"
def TJx3cf43 : u_T := fun k => match k with
  | _ => ("", "", "", false)
def tyJx3cf43 : Nat → FieldType := fun k => match k with
  | _ => .int
abbrev wsJx3cf430 : List Cond := u_ws "java/lang/constant/ConstantDesc" TJx3cf43 0
theorem nmJx3cf43 : ∀ a, a < 0 → ∀ b, b < 0 → a ≠ b → (TJx3cf43 a).2.1 ≠ (TJx3cf43 b).2.1 := by decide +kernel
theorem tyJx3cf43_ok : ∀ k, k < 0 → parseFieldDescriptor (TJx3cf43 k).2.2.1 = some (tyJx3cf43 k) := by decide +kernel
def RJ7 : String := "java/util/Arrays"
def TJ7 : u_T := fun k => match k with
  | _ => ("", "", "", false)
def tyJ7 : Nat → FieldType := fun k => match k with
  | _ => .int
abbrev wsJ70 : List Cond := u_ws "java/util/Arrays" TJ7 0
theorem nmJ7 : ∀ a, a < 0 → ∀ b, b < 0 → a ≠ b → (TJ7 a).2.1 ≠ (TJ7 b).2.1 := by decide +kernel
theorem tyJ7_ok : ∀ k, k < 0 → parseFieldDescriptor (TJ7 k).2.2.1 = some (tyJ7 k) := by decide +kernel
abbrev cJ7_rangeCheck_23922 : ByteArray := prog_26_method_30_code
def yJ7_rangeCheck_23922 : MethodName := ⟨"java/util/Arrays", "rangeCheck", "(III)V"⟩
abbrev cJ7_fill_53178 : ByteArray := prog_26_method_103_code
def yJ7_fill_53178 : MethodName := ⟨"java/util/Arrays", "fill", "([II)V"⟩
abbrev cJ7_fill_eb02e : ByteArray := prog_26_method_110_code
def yJ7_fill_eb02e : MethodName := ⟨"java/util/Arrays", "fill", "([BIIB)V"⟩
abbrev cJ7_copyOf_9075b : ByteArray := prog_26_method_121_code
def yJ7_copyOf_9075b : MethodName := ⟨"java/util/Arrays", "copyOf", "([BI)[B"⟩
abbrev cJ7_checkLength_df160 : ByteArray := prog_26_method_131_code
def yJ7_checkLength_df160 : MethodName := ⟨"java/util/Arrays", "checkLength", "(II)V"⟩
abbrev cJ7_copyOfRange_39247 : ByteArray := prog_26_method_132_code
def yJ7_copyOfRange_39247 : MethodName := ⟨"java/util/Arrays", "copyOfRange", "([BII)[B"⟩
abbrev cJ7_copyOfRangeByte_39247 : ByteArray := prog_26_method_133_code
def yJ7_copyOfRangeByte_39247 : MethodName := ⟨"java/util/Arrays", "copyOfRangeByte", "([BII)[B"⟩
def RJ8 : String := "jdk/internal/util/ArraysSupport"
def TJ8 : u_T := fun k => match k with
  | _ => ("", "", "", false)
def tyJ8 : Nat → FieldType := fun k => match k with
  | _ => .int
abbrev wsJ80 : List Cond := u_ws "jdk/internal/util/ArraysSupport" TJ8 0
theorem nmJ8 : ∀ a, a < 0 → ∀ b, b < 0 → a ≠ b → (TJ8 a).2.1 ≠ (TJ8 b).2.1 := by decide +kernel
theorem tyJ8_ok : ∀ k, k < 0 → parseFieldDescriptor (TJ8 k).2.2.1 = some (tyJ8 k) := by decide +kernel
abbrev cJ8_newLength_cabcc : ByteArray := prog_27_method_27_code
def yJ8_newLength_cabcc : MethodName := ⟨"jdk/internal/util/ArraysSupport", "newLength", "(III)I"⟩
abbrev cJ8_hugeLength_7cf53 : ByteArray := prog_27_method_28_code
def yJ8_hugeLength_7cf53 : MethodName := ⟨"jdk/internal/util/ArraysSupport", "hugeLength", "(II)I"⟩
def RJ3 : String := "jdk/internal/util/Preconditions"
def TJ3 : u_T := fun k => match k with
  | _ => ("", "", "", false)
def tyJ3 : Nat → FieldType := fun k => match k with
  | _ => .int
abbrev wsJ30 : List Cond := u_ws "jdk/internal/util/Preconditions" TJ3 0
theorem nmJ3 : ∀ a, a < 0 → ∀ b, b < 0 → a ≠ b → (TJ3 a).2.1 ≠ (TJ3 b).2.1 := by decide +kernel
theorem tyJ3_ok : ∀ k, k < 0 → parseFieldDescriptor (TJ3 k).2.2.1 = some (tyJ3 k) := by decide +kernel
abbrev cJ3_checkIndex_8e157 : ByteArray := prog_28_method_11_code
def yJ3_checkIndex_8e157 : MethodName := ⟨"jdk/internal/util/Preconditions", "checkIndex", "(IILjava/util/function/BiFunction;)I"⟩
abbrev cJ3_checkFromToIndex_8c36e : ByteArray := prog_28_method_12_code
def yJ3_checkFromToIndex_8c36e : MethodName := ⟨"jdk/internal/util/Preconditions", "checkFromToIndex", "(IIILjava/util/function/BiFunction;)I"⟩
abbrev cJ3_checkFromIndexSize_8c36e : ByteArray := prog_28_method_13_code
def yJ3_checkFromIndexSize_8c36e : MethodName := ⟨"jdk/internal/util/Preconditions", "checkFromIndexSize", "(IIILjava/util/function/BiFunction;)I"⟩
def RL : String := "UrnHeapLaw"
abbrev cL_cell : ByteArray := method_2_code
def yL_cell : MethodName := ⟨"UrnHeapLaw", "cell", "([II)I"⟩
abbrev cL_pick : ByteArray := method_3_code
def yL_pick : MethodName := ⟨"UrnHeapLaw", "pick", "([III)I"⟩
abbrev cL_runs : ByteArray := method_4_code
def yL_runs : MethodName := ⟨"UrnHeapLaw", "runs", "(LUrnHeap;Ljava/lang/String;)I"⟩
abbrev cL_law : ByteArray := code
def yL_law : MethodName := ⟨"UrnHeapLaw", "law", "([I)Z"⟩
abbrev cL_does : ByteArray := method_8_code
def yL_does : MethodName := ⟨"UrnHeapLaw", "does", "([IIILUrnHeap;)I"⟩
abbrev cL_sum : ByteArray := method_9_code
def yL_sum : MethodName := ⟨"UrnHeapLaw", "sum", "(LUrnHeap;)J"⟩
abbrev cL_isWhole : ByteArray := method_10_code
def yL_isWhole : MethodName := ⟨"UrnHeapLaw", "isWhole", "(LUrnHeap;)Z"⟩
abbrev cL_isKept : ByteArray := method_11_code
def yL_isKept : MethodName := ⟨"UrnHeapLaw", "isKept", "(LUrnHeap;[JI)Z"⟩
abbrev cL_isRound : ByteArray := method_12_code
def yL_isRound : MethodName := ⟨"UrnHeapLaw", "isRound", "(LUrnHeap;)Z"⟩
abbrev vwCl : List vw_C := [("java/lang/String", TJ0, 4), ("java/lang/StringBuilder", TJ4, 4), ("UrnHeap$Hands", TX1, 2), ("UrnHeap$Heap", TX2, 17), ("UrnHeap$History", TX3, 6), ("UrnHeap$Line", TX5, 1), ("UrnHeap$Orders", TX6, 8), ("UrnHeap$Paths", TX7, 2), ("UrnHeap$Refusals", TX8, 2), ("UrnHeap$Row", TX9, 2), ("UrnHeap$Sexton", TX10, 2), ("UrnHeap", TX11, 8)]
