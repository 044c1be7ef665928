def RX0 : String := "EstateSlopes$Estate"
def TX0 : u_T := fun k => match k with
  | 0 => ("EstateSlopes$Estate", "things", "[I", true)
  | 1 => ("EstateSlopes$Estate", "owners", "[I", true)
  | 2 => ("EstateSlopes$Estate", "columns", "I", false)
  | 3 => ("EstateSlopes$Estate", "rows", "I", false)
  | _ => ("EstateSlopes$Estate", "slides", "I", false)
def tyX0 : Nat → FieldType := fun k => match k with
  | 0 => .array .int
  | 1 => .array .int
  | 2 => .int
  | 3 => .int
  | _ => .int
abbrev wsX00 : List Cond := u_ws RX0 TX0 5
theorem nmX0 : ∀ a, a < 5 → ∀ b, b < 5 → a ≠ b → (TX0 a).2.1 ≠ (TX0 b).2.1 := by decide +kernel
theorem tyX0_ok : ∀ k, k < 5 → parseFieldDescriptor (TX0 k).2.2.1 = some (tyX0 k) := by decide +kernel
abbrev cX0_init : ByteArray := prog_2_method_1_code
def yX0_init : MethodName := ⟨RX0, "<init>", "()V"⟩
abbrev cX0_clear : ByteArray := prog_2_method_2_code
def yX0_clear : MethodName := ⟨RX0, "clear", "()V"⟩
abbrev cX0_copyFrom : ByteArray := prog_2_method_3_code
def yX0_copyFrom : MethodName := ⟨RX0, "copyFrom", "(LEstateSlopes$Estate;)V"⟩
abbrev cX0_cells : ByteArray := prog_2_method_4_code
def yX0_cells : MethodName := ⟨RX0, "cells", "()I"⟩
abbrev cX0_hasCell : ByteArray := prog_2_method_5_code
def yX0_hasCell : MethodName := ⟨RX0, "hasCell", "(I)Z"⟩
abbrev cX0_hasColumn : ByteArray := prog_2_method_6_code
def yX0_hasColumn : MethodName := ⟨RX0, "hasColumn", "(I)Z"⟩
abbrev cX0_hasRow : ByteArray := prog_2_method_7_code
def yX0_hasRow : MethodName := ⟨RX0, "hasRow", "(I)Z"⟩
abbrev cX0_addRow : ByteArray := prog_2_method_8_code
def yX0_addRow : MethodName := ⟨RX0, "addRow", "(I)Z"⟩
abbrev cX0_thingOn : ByteArray := prog_2_method_9_code
def yX0_thingOn : MethodName := ⟨RX0, "thingOn", "(I)I"⟩
abbrev cX0_ownerOf : ByteArray := prog_2_method_10_code
def yX0_ownerOf : MethodName := ⟨RX0, "ownerOf", "(I)I"⟩
abbrev cX0_putThing : ByteArray := prog_2_method_11_code
def yX0_putThing : MethodName := ⟨RX0, "putThing", "(II)V"⟩
abbrev cX0_putOwner : ByteArray := prog_2_method_12_code
def yX0_putOwner : MethodName := ⟨RX0, "putOwner", "(II)V"⟩
abbrev cX0_cellsOf : ByteArray := prog_2_method_13_code
def yX0_cellsOf : MethodName := ⟨RX0, "cellsOf", "(I)I"⟩
abbrev cX0_cellsOfSides : ByteArray := prog_2_method_14_code
def yX0_cellsOfSides : MethodName := ⟨RX0, "cellsOfSides", "()I"⟩
abbrev cX0_cellsWith : ByteArray := prog_2_method_15_code
def yX0_cellsWith : MethodName := ⟨RX0, "cellsWith", "(I)I"⟩
abbrev cX0_freezable : ByteArray := prog_2_method_16_code
def yX0_freezable : MethodName := ⟨RX0, "freezable", "(I)I"⟩
abbrev cX0_freeze : ByteArray := prog_2_method_17_code
def yX0_freeze : MethodName := ⟨RX0, "freeze", "(I)V"⟩
abbrev cX0_frozen : ByteArray := prog_2_method_18_code
def yX0_frozen : MethodName := ⟨RX0, "frozen", "(I)I"⟩
abbrev cX0_beside : ByteArray := prog_2_method_19_code
def yX0_beside : MethodName := ⟨RX0, "beside", "(II)I"⟩
def RX1 : String := "EstateSlopes$Ground"
def TX1 : u_T := fun k => match k with
  | 0 => ("EstateSlopes$Ground", "marks", "[I", true)
  | 1 => ("EstateSlopes$Ground", "waiting", "[I", true)
  | _ => ("EstateSlopes$Ground", "waits", "I", false)
def tyX1 : Nat → FieldType := fun k => match k with
  | 0 => .array .int
  | 1 => .array .int
  | _ => .int
abbrev wsX10 : List Cond := u_ws RX1 TX1 3
theorem nmX1 : ∀ a, a < 3 → ∀ b, b < 3 → a ≠ b → (TX1 a).2.1 ≠ (TX1 b).2.1 := by decide +kernel
theorem tyX1_ok : ∀ k, k < 3 → parseFieldDescriptor (TX1 k).2.2.1 = some (tyX1 k) := by decide +kernel
abbrev cX1_init : ByteArray := prog_3_method_1_code
def yX1_init : MethodName := ⟨RX1, "<init>", "()V"⟩
abbrev cX1_piecesOf : ByteArray := prog_3_method_2_code
def yX1_piecesOf : MethodName := ⟨RX1, "piecesOf", "(LEstateSlopes$Estate;I)I"⟩
abbrev cX1_markPiece : ByteArray := prog_3_method_3_code
def yX1_markPiece : MethodName := ⟨RX1, "markPiece", "(LEstateSlopes$Estate;II)V"⟩
abbrev cX1_await : ByteArray := prog_3_method_4_code
def yX1_await : MethodName := ⟨RX1, "await", "(I)V"⟩
abbrev cX1_nextWaiting : ByteArray := prog_3_method_5_code
def yX1_nextWaiting : MethodName := ⟨RX1, "nextWaiting", "()I"⟩
abbrev cX1_leastBetween : ByteArray := prog_3_method_6_code
def yX1_leastBetween : MethodName := ⟨RX1, "leastBetween", "(LEstateSlopes$Estate;III)I"⟩
abbrev cX1_lowerMark : ByteArray := prog_3_method_7_code
def yX1_lowerMark : MethodName := ⟨RX1, "lowerMark", "(LEstateSlopes$Estate;II)Z"⟩
abbrev cX1_fillMarks : ByteArray := prog_3_method_8_code
def yX1_fillMarks : MethodName := ⟨RX1, "fillMarks", "(I)V"⟩
abbrev cX1_markOf : ByteArray := prog_3_method_9_code
def yX1_markOf : MethodName := ⟨RX1, "markOf", "(I)I"⟩
abbrev cX1_putMark : ByteArray := prog_3_method_10_code
def yX1_putMark : MethodName := ⟨RX1, "putMark", "(II)V"⟩
def RX2 : String := "EstateSlopes$Odds"
def TX2 : u_T := fun k => match k with
  | 0 => ("EstateSlopes$Odds", "ways", "[I", true)
  | 1 => ("EstateSlopes$Odds", "nextWays", "[I", true)
  | 2 => ("EstateSlopes$Odds", "above", "I", false)
  | _ => ("EstateSlopes$Odds", "below", "I", false)
def tyX2 : Nat → FieldType := fun k => match k with
  | 0 => .array .int
  | 1 => .array .int
  | 2 => .int
  | _ => .int
abbrev wsX20 : List Cond := u_ws RX2 TX2 4
theorem nmX2 : ∀ a, a < 4 → ∀ b, b < 4 → a ≠ b → (TX2 a).2.1 ≠ (TX2 b).2.1 := by decide +kernel
theorem tyX2_ok : ∀ k, k < 4 → parseFieldDescriptor (TX2 k).2.2.1 = some (tyX2 k) := by decide +kernel
abbrev cX2_init : ByteArray := prog_4_method_1_code
def yX2_init : MethodName := ⟨RX2, "<init>", "()V"⟩
abbrev cX2_find : ByteArray := prog_4_method_2_code
def yX2_find : MethodName := ⟨RX2, "find", "(LEstateSlopes$Estate;IIII)V"⟩
abbrev cX2_start : ByteArray := prog_4_method_3_code
def yX2_start : MethodName := ⟨RX2, "start", "(I)V"⟩
abbrev cX2_passRow : ByteArray := prog_4_method_4_code
def yX2_passRow : MethodName := ⟨RX2, "passRow", "(II)V"⟩
abbrev cX2_addNext : ByteArray := prog_4_method_5_code
def yX2_addNext : MethodName := ⟨RX2, "addNext", "(II)V"⟩
abbrev cX2_waysOf : ByteArray := prog_4_method_6_code
def yX2_waysOf : MethodName := ⟨RX2, "waysOf", "(I)I"⟩
abbrev cX2_putWays : ByteArray := prog_4_method_7_code
def yX2_putWays : MethodName := ⟨RX2, "putWays", "(II)V"⟩
abbrev cX2_allWays : ByteArray := prog_4_method_8_code
def yX2_allWays : MethodName := ⟨RX2, "allWays", "()I"⟩
abbrev cX2_setLowest : ByteArray := prog_4_method_9_code
def yX2_setLowest : MethodName := ⟨RX2, "setLowest", "(II)V"⟩
abbrev cX2_commonDivisor : ByteArray := prog_4_method_10_code
def yX2_commonDivisor : MethodName := ⟨RX2, "commonDivisor", "(II)I"⟩
def RX3 : String := "EstateSlopes$Ride"
def TX3 : u_T := fun k => match k with
  | 0 => ("EstateSlopes$Ride", "cells", "[I", true)
  | 1 => ("EstateSlopes$Ride", "speeds", "[I", true)
  | 2 => ("EstateSlopes$Ride", "length", "I", false)
  | _ => ("EstateSlopes$Ride", "end", "I", false)
def tyX3 : Nat → FieldType := fun k => match k with
  | 0 => .array .int
  | 1 => .array .int
  | 2 => .int
  | _ => .int
abbrev wsX30 : List Cond := u_ws RX3 TX3 4
theorem nmX3 : ∀ a, a < 4 → ∀ b, b < 4 → a ≠ b → (TX3 a).2.1 ≠ (TX3 b).2.1 := by decide +kernel
theorem tyX3_ok : ∀ k, k < 4 → parseFieldDescriptor (TX3 k).2.2.1 = some (tyX3 k) := by decide +kernel
abbrev cX3_init : ByteArray := prog_5_method_1_code
def yX3_init : MethodName := ⟨RX3, "<init>", "()V"⟩
abbrev cX3_run : ByteArray := prog_5_method_2_code
def yX3_run : MethodName := ⟨RX3, "run", "(LEstateSlopes$Estate;III)V"⟩
abbrev cX3_speedOver : ByteArray := prog_5_method_3_code
def yX3_speedOver : MethodName := ⟨RX3, "speedOver", "(II)I"⟩
abbrev cX3_cameTo : ByteArray := prog_5_method_4_code
def yX3_cameTo : MethodName := ⟨RX3, "cameTo", "(I)Z"⟩
abbrev cX3_cellIn : ByteArray := prog_5_method_5_code
def yX3_cellIn : MethodName := ⟨RX3, "cellIn", "(I)I"⟩
abbrev cX3_speedBehind : ByteArray := prog_5_method_6_code
def yX3_speedBehind : MethodName := ⟨RX3, "speedBehind", "(I)I"⟩
abbrev cX3_takeFor : ByteArray := prog_5_method_7_code
def yX3_takeFor : MethodName := ⟨RX3, "takeFor", "(LEstateSlopes$Estate;I)V"⟩
abbrev cX3_cellsThatAre : ByteArray := prog_5_method_8_code
def yX3_cellsThatAre : MethodName := ⟨RX3, "cellsThatAre", "(LEstateSlopes$Estate;IZ)I"⟩
def RX4 : String := "EstateSlopes$Search"
def TX4 : u_T := fun k => match k with
  | 0 => ("EstateSlopes$Search", "code", "I", false)
  | _ => ("EstateSlopes$Search", "taken", "I", false)
def tyX4 : Nat → FieldType := fun k => match k with
  | 0 => .int
  | _ => .int
abbrev wsX40 : List Cond := u_ws RX4 TX4 2
theorem nmX4 : ∀ a, a < 2 → ∀ b, b < 2 → a ≠ b → (TX4 a).2.1 ≠ (TX4 b).2.1 := by decide +kernel
theorem tyX4_ok : ∀ k, k < 2 → parseFieldDescriptor (TX4 k).2.2.1 = some (tyX4 k) := by decide +kernel
abbrev cX4_init : ByteArray := prog_6_method_1_code
def yX4_init : MethodName := ⟨RX4, "<init>", "()V"⟩
abbrev cX4_firstThatStops : ByteArray := prog_6_method_2_code
def yX4_firstThatStops : MethodName := ⟨RX4, "firstThatStops", "(LEstateSlopes$Estate;LEstateSlopes$Ride;I)I"⟩
abbrev cX4_findMostTaken : ByteArray := prog_6_method_3_code
def yX4_findMostTaken : MethodName := ⟨RX4, "findMostTaken", "(LEstateSlopes$Estate;LEstateSlopes$Ride;IZ)V"⟩
abbrev cX4_heelsAt : ByteArray := prog_6_method_4_code
def yX4_heelsAt : MethodName := ⟨RX4, "heelsAt", "(II)I"⟩
abbrev cX4_codeOf : ByteArray := prog_6_method_5_code
def yX4_codeOf : MethodName := ⟨RX4, "codeOf", "(III)I"⟩
def RX5 : String := "EstateSlopes$Shelf"
def TX5 : u_T := fun k => match k with
  | 0 => ("EstateSlopes$Shelf", "places", "[LEstateSlopes$Estate;", true)
  | 1 => ("EstateSlopes$Shelf", "next", "I", false)
  | _ => ("EstateSlopes$Shelf", "size", "I", false)
def tyX5 : Nat → FieldType := fun k => match k with
  | 0 => .array (.object "EstateSlopes$Estate")
  | 1 => .int
  | _ => .int
abbrev wsX50 : List Cond := u_ws RX5 TX5 3
theorem nmX5 : ∀ a, a < 3 → ∀ b, b < 3 → a ≠ b → (TX5 a).2.1 ≠ (TX5 b).2.1 := by decide +kernel
theorem tyX5_ok : ∀ k, k < 3 → parseFieldDescriptor (TX5 k).2.2.1 = some (tyX5 k) := by decide +kernel
abbrev cX5_init : ByteArray := prog_7_method_1_code
def yX5_init : MethodName := ⟨RX5, "<init>", "(I)V"⟩
abbrev cX5_clear : ByteArray := prog_7_method_2_code
def yX5_clear : MethodName := ⟨RX5, "clear", "()V"⟩
abbrev cX5_push : ByteArray := prog_7_method_3_code
def yX5_push : MethodName := ⟨RX5, "push", "(LEstateSlopes$Estate;)V"⟩
abbrev cX5_popInto : ByteArray := prog_7_method_4_code
def yX5_popInto : MethodName := ⟨RX5, "popInto", "(LEstateSlopes$Estate;)Z"⟩
def RX6 : String := "EstateSlopes$Sights"
def TX6 : u_T := fun k => match k with
  | 0 => ("EstateSlopes$Sights", "columns", "[I", true)
  | 1 => ("EstateSlopes$Sights", "weights", "[I", true)
  | 2 => ("EstateSlopes$Sights", "ends", "[I", true)
  | _ => ("EstateSlopes$Sights", "size", "I", false)
def tyX6 : Nat → FieldType := fun k => match k with
  | 0 => .array .int
  | 1 => .array .int
  | 2 => .array .int
  | _ => .int
abbrev wsX60 : List Cond := u_ws RX6 TX6 4
theorem nmX6 : ∀ a, a < 4 → ∀ b, b < 4 → a ≠ b → (TX6 a).2.1 ≠ (TX6 b).2.1 := by decide +kernel
theorem tyX6_ok : ∀ k, k < 4 → parseFieldDescriptor (TX6 k).2.2.1 = some (tyX6 k) := by decide +kernel
abbrev cX6_init : ByteArray := prog_8_method_1_code
def yX6_init : MethodName := ⟨RX6, "<init>", "()V"⟩
abbrev cX6_clear : ByteArray := prog_8_method_2_code
def yX6_clear : MethodName := ⟨RX6, "clear", "()V"⟩
abbrev cX6_add : ByteArray := prog_8_method_3_code
def yX6_add : MethodName := ⟨RX6, "add", "(III)Z"⟩
abbrev cX6_allHold : ByteArray := prog_8_method_4_code
def yX6_allHold : MethodName := ⟨RX6, "allHold", "(LEstateSlopes$Estate;LEstateSlopes$Ride;)Z"⟩
def RX7 : String := "EstateSlopes$Text"
def TX7 : u_T := fun k => match k with
  | 0 => ("EstateSlopes$Text", "letters", "[I", true)
  | _ => ("EstateSlopes$Text", "length", "I", false)
def tyX7 : Nat → FieldType := fun k => match k with
  | 0 => .array .int
  | _ => .int
abbrev wsX70 : List Cond := u_ws RX7 TX7 2
theorem nmX7 : ∀ a, a < 2 → ∀ b, b < 2 → a ≠ b → (TX7 a).2.1 ≠ (TX7 b).2.1 := by decide +kernel
theorem tyX7_ok : ∀ k, k < 2 → parseFieldDescriptor (TX7 k).2.2.1 = some (tyX7 k) := by decide +kernel
abbrev cX7_init : ByteArray := prog_9_method_1_code
def yX7_init : MethodName := ⟨RX7, "<init>", "()V"⟩
abbrev cX7_append : ByteArray := prog_9_method_2_code
def yX7_append : MethodName := ⟨RX7, "append", "(I)Z"⟩
abbrev cX7_clear : ByteArray := prog_9_method_3_code
def yX7_clear : MethodName := ⟨RX7, "clear", "()V"⟩
abbrev cX7_letterAt : ByteArray := prog_9_method_4_code
def yX7_letterAt : MethodName := ⟨RX7, "letterAt", "(I)I"⟩
abbrev cX7_readInto : ByteArray := prog_9_method_5_code
def yX7_readInto : MethodName := ⟨RX7, "readInto", "(LEstateSlopes$Estate;)I"⟩
abbrev cX7_readItem : ByteArray := prog_9_method_6_code
def yX7_readItem : MethodName := ⟨RX7, "readItem", "(ILEstateSlopes$Estate;)I"⟩
abbrev cX7_readRow : ByteArray := prog_9_method_7_code
def yX7_readRow : MethodName := ⟨RX7, "readRow", "(ILEstateSlopes$Estate;)I"⟩
abbrev cX7_readOwner : ByteArray := prog_9_method_8_code
def yX7_readOwner : MethodName := ⟨RX7, "readOwner", "(ILEstateSlopes$Estate;)I"⟩
abbrev cX7_behindNumber : ByteArray := prog_9_method_9_code
def yX7_behindNumber : MethodName := ⟨RX7, "behindNumber", "(I)I"⟩
abbrev cX7_numberIn : ByteArray := prog_9_method_10_code
def yX7_numberIn : MethodName := ⟨RX7, "numberIn", "(II)I"⟩
abbrev cX7_isFigure : ByteArray := prog_9_method_11_code
def yX7_isFigure : MethodName := ⟨RX7, "isFigure", "(I)Z"⟩
def RX8 : String := "EstateSlopes"
def TX8 : u_T := fun k => match k with
  | 0 => ("EstateSlopes", "text", "LEstateSlopes$Text;", true)
  | 1 => ("EstateSlopes", "now", "LEstateSlopes$Estate;", true)
  | 2 => ("EstateSlopes", "draft", "LEstateSlopes$Estate;", true)
  | 3 => ("EstateSlopes", "past", "LEstateSlopes$Shelf;", true)
  | 4 => ("EstateSlopes", "kept", "LEstateSlopes$Shelf;", true)
  | 5 => ("EstateSlopes", "sights", "LEstateSlopes$Sights;", true)
  | 6 => ("EstateSlopes", "ride", "LEstateSlopes$Ride;", true)
  | 7 => ("EstateSlopes", "search", "LEstateSlopes$Search;", true)
  | 8 => ("EstateSlopes", "ground", "LEstateSlopes$Ground;", true)
  | _ => ("EstateSlopes", "odds", "LEstateSlopes$Odds;", true)
def tyX8 : Nat → FieldType := fun k => match k with
  | 0 => .object "EstateSlopes$Text"
  | 1 => .object "EstateSlopes$Estate"
  | 2 => .object "EstateSlopes$Estate"
  | 3 => .object "EstateSlopes$Shelf"
  | 4 => .object "EstateSlopes$Shelf"
  | 5 => .object "EstateSlopes$Sights"
  | 6 => .object "EstateSlopes$Ride"
  | 7 => .object "EstateSlopes$Search"
  | 8 => .object "EstateSlopes$Ground"
  | _ => .object "EstateSlopes$Odds"
abbrev wsX80 : List Cond := u_ws RX8 TX8 10
theorem nmX8 : ∀ a, a < 10 → ∀ b, b < 10 → a ≠ b → (TX8 a).2.1 ≠ (TX8 b).2.1 := by decide +kernel
theorem tyX8_ok : ∀ k, k < 10 → parseFieldDescriptor (TX8 k).2.2.1 = some (tyX8 k) := by decide +kernel
abbrev cX8_init : ByteArray := prog_1_method_1_code
def yX8_init : MethodName := ⟨RX8, "<init>", "()V"⟩
abbrev cX8_write : ByteArray := prog_1_method_2_code
def yX8_write : MethodName := ⟨RX8, "write", "(I)I"⟩
abbrev cX8_wipe : ByteArray := prog_1_method_3_code
def yX8_wipe : MethodName := ⟨RX8, "wipe", "()I"⟩
abbrev cX8_fault : ByteArray := prog_1_method_4_code
def yX8_fault : MethodName := ⟨RX8, "fault", "()I"⟩
abbrev cX8_lay : ByteArray := prog_1_method_5_code
def yX8_lay : MethodName := ⟨RX8, "lay", "()I"⟩
abbrev cX8_cell : ByteArray := prog_1_method_6_code
def yX8_cell : MethodName := ⟨RX8, "cell", "(II)I"⟩
abbrev cX8_stops : ByteArray := prog_1_method_7_code
def yX8_stops : MethodName := ⟨RX8, "stops", "(III)I"⟩
abbrev cX8_track : ByteArray := prog_1_method_8_code
def yX8_track : MethodName := ⟨RX8, "track", "(IIIII)I"⟩
abbrev cX8_holds : ByteArray := prog_1_method_9_code
def yX8_holds : MethodName := ⟨RX8, "holds", "(I)I"⟩
abbrev cX8_slide : ByteArray := prog_1_method_10_code
def yX8_slide : MethodName := ⟨RX8, "slide", "(IIII)I"⟩
abbrev cX8_dig : ByteArray := prog_1_method_11_code
def yX8_dig : MethodName := ⟨RX8, "dig", "(II)I"⟩
abbrev cX8_give : ByteArray := prog_1_method_12_code
def yX8_give : MethodName := ⟨RX8, "give", "(II)I"⟩
abbrev cX8_frost : ByteArray := prog_1_method_13_code
def yX8_frost : MethodName := ⟨RX8, "frost", "(I)I"⟩
abbrev cX8_undo : ByteArray := prog_1_method_14_code
def yX8_undo : MethodName := ⟨RX8, "undo", "()I"⟩
abbrev cX8_aim : ByteArray := prog_1_method_15_code
def yX8_aim : MethodName := ⟨RX8, "aim", "(I)I"⟩
abbrev cX8_gain : ByteArray := prog_1_method_16_code
def yX8_gain : MethodName := ⟨RX8, "gain", "(II)I"⟩
abbrev cX8_spoil : ByteArray := prog_1_method_17_code
def yX8_spoil : MethodName := ⟨RX8, "spoil", "(III)I"⟩
abbrev cX8_cure : ByteArray := prog_1_method_18_code
def yX8_cure : MethodName := ⟨RX8, "cure", "(IIII)I"⟩
abbrev cX8_pieces : ByteArray := prog_1_method_19_code
def yX8_pieces : MethodName := ⟨RX8, "pieces", "(I)I"⟩
abbrev cX8_bridge : ByteArray := prog_1_method_20_code
def yX8_bridge : MethodName := ⟨RX8, "bridge", "(III)I"⟩
abbrev cX8_seen : ByteArray := prog_1_method_21_code
def yX8_seen : MethodName := ⟨RX8, "seen", "(III)I"⟩
abbrev cX8_forget : ByteArray := prog_1_method_22_code
def yX8_forget : MethodName := ⟨RX8, "forget", "()I"⟩
abbrev cX8_lies : ByteArray := prog_1_method_23_code
def yX8_lies : MethodName := ⟨RX8, "lies", "(I)I"⟩
abbrev cX8_heavy : ByteArray := prog_1_method_24_code
def yX8_heavy : MethodName := ⟨RX8, "heavy", "(III)I"⟩
abbrev cX8_likely : ByteArray := prog_1_method_25_code
def yX8_likely : MethodName := ⟨RX8, "likely", "(IIIII)I"⟩
abbrev cX8_winter : ByteArray := prog_1_method_26_code
def yX8_winter : MethodName := ⟨RX8, "winter", "(III)I"⟩
abbrev cX8_keep : ByteArray := prog_1_method_27_code
def yX8_keep : MethodName := ⟨RX8, "keep", "()I"⟩
abbrev cX8_back : ByteArray := prog_1_method_28_code
def yX8_back : MethodName := ⟨RX8, "back", "()I"⟩
abbrev cX8_count : ByteArray := prog_1_method_29_code
def yX8_count : MethodName := ⟨RX8, "count", "(I)I"⟩
abbrev cX8_isFlag : ByteArray := prog_1_method_30_code
def yX8_isFlag : MethodName := ⟨RX8, "isFlag", "(I)Z"⟩
abbrev cX8_isSide : ByteArray := prog_1_method_31_code
def yX8_isSide : MethodName := ⟨RX8, "isSide", "(I)Z"⟩
abbrev cX8_isThing : ByteArray := prog_1_method_32_code
def yX8_isThing : MethodName := ⟨RX8, "isThing", "(I)Z"⟩
abbrev cX8_isHeels : ByteArray := prog_1_method_33_code
def yX8_isHeels : MethodName := ⟨RX8, "isHeels", "(I)Z"⟩
abbrev cX8_isRide : ByteArray := prog_1_method_34_code
def yX8_isRide : MethodName := ⟨RX8, "isRide", "(III)Z"⟩
abbrev cX8_isEnd : ByteArray := prog_1_method_35_code
def yX8_isEnd : MethodName := ⟨RX8, "isEnd", "(I)Z"⟩
abbrev cX8_sideOrNone : ByteArray := prog_1_method_36_code
def yX8_sideOrNone : MethodName := ⟨RX8, "sideOrNone", "(I)I"⟩
abbrev cX8_firstCureIn : ByteArray := prog_1_method_37_code
def yX8_firstCureIn : MethodName := ⟨RX8, "firstCureIn", "(IIIII)I"⟩
abbrev cX8_drawOf : ByteArray := prog_1_method_38_code
def yX8_drawOf : MethodName := ⟨RX8, "drawOf", "(II)I"⟩
abbrev cX8_winterThing : ByteArray := prog_1_method_39_code
def yX8_winterThing : MethodName := ⟨RX8, "winterThing", "(I)Z"⟩
def RX9 : String := "EstateSlopesModel"
def TX9 : u_T := fun k => match k with
  | 0 => ("EstateSlopesModel", "rows", "I", false)
  | 1 => ("EstateSlopesModel", "columns", "I", false)
  | 2 => ("EstateSlopesModel", "slides", "I", false)
  | 3 => ("EstateSlopesModel", "lie", "[I", true)
  | 4 => ("EstateSlopesModel", "owner", "[I", true)
  | 5 => ("EstateSlopesModel", "seenMany", "I", false)
  | 6 => ("EstateSlopesModel", "seenColumn", "[I", true)
  | 7 => ("EstateSlopesModel", "seenWeight", "[I", true)
  | 8 => ("EstateSlopesModel", "seenAt", "[I", true)
  | 9 => ("EstateSlopesModel", "text", "[I", true)
  | 10 => ("EstateSlopesModel", "size", "I", false)
  | 11 => ("EstateSlopesModel", "readAt", "I", false)
  | 12 => ("EstateSlopesModel", "readRows", "I", false)
  | 13 => ("EstateSlopesModel", "readWide", "I", false)
  | 14 => ("EstateSlopesModel", "readLie", "[I", true)
  | 15 => ("EstateSlopesModel", "readOwner", "[I", true)
  | 16 => ("EstateSlopesModel", "readNumber", "I", false)
  | 17 => ("EstateSlopesModel", "cellOf", "[I", true)
  | 18 => ("EstateSlopesModel", "speedOf", "[I", true)
  | 19 => ("EstateSlopesModel", "ahead", "[I", true)
  | 20 => ("EstateSlopesModel", "undoMany", "I", false)
  | 21 => ("EstateSlopesModel", "bestSlide", "I", false)
  | 22 => ("EstateSlopesModel", "bestHeld", "I", false)
  | 23 => ("EstateSlopesModel", "mark", "[I", true)
  | 24 => ("EstateSlopesModel", "aside", "[I", true)
  | 25 => ("EstateSlopesModel", "kept", "[I", true)
  | _ => ("EstateSlopesModel", "keptMany", "I", false)
def tyX9 : Nat → FieldType := fun k => match k with
  | 0 => .int
  | 1 => .int
  | 2 => .int
  | 3 => .array .int
  | 4 => .array .int
  | 5 => .int
  | 6 => .array .int
  | 7 => .array .int
  | 8 => .array .int
  | 9 => .array .int
  | 10 => .int
  | 11 => .int
  | 12 => .int
  | 13 => .int
  | 14 => .array .int
  | 15 => .array .int
  | 16 => .int
  | 17 => .array .int
  | 18 => .array .int
  | 19 => .array .int
  | 20 => .int
  | 21 => .int
  | 22 => .int
  | 23 => .array .int
  | 24 => .array .int
  | 25 => .array .int
  | _ => .int
abbrev wsX90 : List Cond := u_ws RX9 TX9 27
theorem nmX9 : ∀ a, a < 27 → ∀ b, b < 27 → a ≠ b → (TX9 a).2.1 ≠ (TX9 b).2.1 := by decide +kernel
theorem tyX9_ok : ∀ k, k < 27 → parseFieldDescriptor (TX9 k).2.2.1 = some (tyX9 k) := by decide +kernel
abbrev cX9_in : ByteArray := prog_11_method_1_code
def yX9_in : MethodName := ⟨RX9, "in", "(III)Z"⟩
abbrev cX9_has : ByteArray := prog_11_method_2_code
def yX9_has : MethodName := ⟨RX9, "has", "(II)Z"⟩
abbrev cX9_init : ByteArray := prog_11_method_3_code
def yX9_init : MethodName := ⟨RX9, "<init>", "()V"⟩
abbrev cX9_row : ByteArray := prog_11_method_4_code
def yX9_row : MethodName := ⟨RX9, "row", "(I)V"⟩
abbrev cX9_cells : ByteArray := prog_11_method_5_code
def yX9_cells : MethodName := ⟨RX9, "cells", "()I"⟩
abbrev cX9_isCell : ByteArray := prog_11_method_6_code
def yX9_isCell : MethodName := ⟨RX9, "isCell", "(I)Z"⟩
abbrev cX9_isColumn : ByteArray := prog_11_method_7_code
def yX9_isColumn : MethodName := ⟨RX9, "isColumn", "(I)Z"⟩
abbrev cX9_isSide : ByteArray := prog_11_method_8_code
def yX9_isSide : MethodName := ⟨RX9, "isSide", "(I)Z"⟩
abbrev cX9_isHeels : ByteArray := prog_11_method_9_code
def yX9_isHeels : MethodName := ⟨RX9, "isHeels", "(I)Z"⟩
abbrev cX9_isSlide : ByteArray := prog_11_method_10_code
def yX9_isSlide : MethodName := ⟨RX9, "isSlide", "(III)Z"⟩
abbrev cX9_write : ByteArray := prog_11_method_11_code
def yX9_write : MethodName := ⟨RX9, "write", "(I)I"⟩
abbrev cX9_wipe : ByteArray := prog_11_method_12_code
def yX9_wipe : MethodName := ⟨RX9, "wipe", "()I"⟩
abbrev cX9_here : ByteArray := prog_11_method_13_code
def yX9_here : MethodName := ⟨RX9, "here", "()I"⟩
abbrev cX9_isFigure : ByteArray := prog_11_method_14_code
def yX9_isFigure : MethodName := ⟨RX9, "isFigure", "()Z"⟩
abbrev cX9_number : ByteArray := prog_11_method_15_code
def yX9_number : MethodName := ⟨RX9, "number", "(III)Z"⟩
abbrev cX9_readsRow : ByteArray := prog_11_method_16_code
def yX9_readsRow : MethodName := ⟨RX9, "readsRow", "()Z"⟩
abbrev cX9_readsOwner : ByteArray := prog_11_method_17_code
def yX9_readsOwner : MethodName := ⟨RX9, "readsOwner", "()Z"⟩
abbrev cX9_readsItem : ByteArray := prog_11_method_18_code
def yX9_readsItem : MethodName := ⟨RX9, "readsItem", "()Z"⟩
abbrev cX9_fault : ByteArray := prog_11_method_19_code
def yX9_fault : MethodName := ⟨RX9, "fault", "()I"⟩
abbrev cX9_lay : ByteArray := prog_11_method_20_code
def yX9_lay : MethodName := ⟨RX9, "lay", "()I"⟩
abbrev cX9_slower : ByteArray := prog_11_method_21_code
def yX9_slower : MethodName := ⟨RX9, "slower", "(II)I"⟩
abbrev cX9_goes : ByteArray := prog_11_method_22_code
def yX9_goes : MethodName := ⟨RX9, "goes", "(III)I"⟩
abbrev cX9_cell : ByteArray := prog_11_method_23_code
def yX9_cell : MethodName := ⟨RX9, "cell", "(II)I"⟩
abbrev cX9_stops : ByteArray := prog_11_method_24_code
def yX9_stops : MethodName := ⟨RX9, "stops", "(III)I"⟩
abbrev cX9_track : ByteArray := prog_11_method_25_code
def yX9_track : MethodName := ⟨RX9, "track", "(IIIII)I"⟩
abbrev cX9_owned : ByteArray := prog_11_method_26_code
def yX9_owned : MethodName := ⟨RX9, "owned", "(I)I"⟩
abbrev cX9_holds : ByteArray := prog_11_method_27_code
def yX9_holds : MethodName := ⟨RX9, "holds", "(I)I"⟩
abbrev cX9_lays : ByteArray := prog_11_method_28_code
def yX9_lays : MethodName := ⟨RX9, "lays", "([II)V"⟩
abbrev cX9_takes : ByteArray := prog_11_method_29_code
def yX9_takes : MethodName := ⟨RX9, "takes", "([II)V"⟩
abbrev cX9_notes : ByteArray := prog_11_method_30_code
def yX9_notes : MethodName := ⟨RX9, "notes", "()V"⟩
abbrev cX9_gives : ByteArray := prog_11_method_31_code
def yX9_gives : MethodName := ⟨RX9, "gives", "(I)V"⟩
abbrev cX9_slide : ByteArray := prog_11_method_32_code
def yX9_slide : MethodName := ⟨RX9, "slide", "(IIII)I"⟩
abbrev cX9_dig : ByteArray := prog_11_method_33_code
def yX9_dig : MethodName := ⟨RX9, "dig", "(II)I"⟩
abbrev cX9_give : ByteArray := prog_11_method_34_code
def yX9_give : MethodName := ⟨RX9, "give", "(II)I"⟩
abbrev cX9_frozen : ByteArray := prog_11_method_35_code
def yX9_frozen : MethodName := ⟨RX9, "frozen", "(I)I"⟩
abbrev cX9_others : ByteArray := prog_11_method_36_code
def yX9_others : MethodName := ⟨RX9, "others", "(I)I"⟩
abbrev cX9_freezes : ByteArray := prog_11_method_37_code
def yX9_freezes : MethodName := ⟨RX9, "freezes", "(I)V"⟩
abbrev cX9_frost : ByteArray := prog_11_method_38_code
def yX9_frost : MethodName := ⟨RX9, "frost", "(I)I"⟩
abbrev cX9_undo : ByteArray := prog_11_method_39_code
def yX9_undo : MethodName := ⟨RX9, "undo", "()I"⟩
abbrev cX9_aim : ByteArray := prog_11_method_40_code
def yX9_aim : MethodName := ⟨RX9, "aim", "(I)I"⟩
abbrev cX9_ownedThen : ByteArray := prog_11_method_41_code
def yX9_ownedThen : MethodName := ⟨RX9, "ownedThen", "(II)I"⟩
abbrev cX9_setBest : ByteArray := prog_11_method_42_code
def yX9_setBest : MethodName := ⟨RX9, "setBest", "(II)V"⟩
abbrev cX9_gain : ByteArray := prog_11_method_43_code
def yX9_gain : MethodName := ⟨RX9, "gain", "(II)I"⟩
abbrev cX9_spoil : ByteArray := prog_11_method_44_code
def yX9_spoil : MethodName := ⟨RX9, "spoil", "(III)I"⟩
abbrev cX9_cure : ByteArray := prog_11_method_45_code
def yX9_cure : MethodName := ⟨RX9, "cure", "(IIII)I"⟩
abbrev cX9_isBeside : ByteArray := prog_11_method_46_code
def yX9_isBeside : MethodName := ⟨RX9, "isBeside", "(II)Z"⟩
abbrev cX9_pieces : ByteArray := prog_11_method_47_code
def yX9_pieces : MethodName := ⟨RX9, "pieces", "(I)I"⟩
abbrev cX9_bridge : ByteArray := prog_11_method_48_code
def yX9_bridge : MethodName := ⟨RX9, "bridge", "(III)I"⟩
abbrev cX9_isEnd : ByteArray := prog_11_method_49_code
def yX9_isEnd : MethodName := ⟨RX9, "isEnd", "(I)Z"⟩
abbrev cX9_seen : ByteArray := prog_11_method_50_code
def yX9_seen : MethodName := ⟨RX9, "seen", "(III)I"⟩
abbrev cX9_forget : ByteArray := prog_11_method_51_code
def yX9_forget : MethodName := ⟨RX9, "forget", "()I"⟩
abbrev cX9_isSo : ByteArray := prog_11_method_52_code
def yX9_isSo : MethodName := ⟨RX9, "isSo", "()Z"⟩
abbrev cX9_lies : ByteArray := prog_11_method_53_code
def yX9_lies : MethodName := ⟨RX9, "lies", "(I)I"⟩
abbrev cX9_heavy : ByteArray := prog_11_method_54_code
def yX9_heavy : MethodName := ⟨RX9, "heavy", "(III)I"⟩
abbrev cX9_common : ByteArray := prog_11_method_55_code
def yX9_common : MethodName := ⟨RX9, "common", "(JJ)J"⟩
abbrev cX9_endBy : ByteArray := prog_11_method_56_code
def yX9_endBy : MethodName := ⟨RX9, "endBy", "(III)I"⟩
abbrev cX9_likely : ByteArray := prog_11_method_57_code
def yX9_likely : MethodName := ⟨RX9, "likely", "(IIIII)I"⟩
abbrev cX9_iceMany : ByteArray := prog_11_method_58_code
def yX9_iceMany : MethodName := ⟨RX9, "iceMany", "()I"⟩
abbrev cX9_ownedAll : ByteArray := prog_11_method_59_code
def yX9_ownedAll : MethodName := ⟨RX9, "ownedAll", "()I"⟩
abbrev cX9_winter : ByteArray := prog_11_method_60_code
def yX9_winter : MethodName := ⟨RX9, "winter", "(III)I"⟩
abbrev cX9_keep : ByteArray := prog_11_method_61_code
def yX9_keep : MethodName := ⟨RX9, "keep", "()I"⟩
abbrev cX9_back : ByteArray := prog_11_method_62_code
def yX9_back : MethodName := ⟨RX9, "back", "()I"⟩
abbrev cX9_count : ByteArray := prog_11_method_63_code
def yX9_count : MethodName := ⟨RX9, "count", "(I)I"⟩
def RJ9 : String := "java/lang/Math"
def TJ9 : u_T := fun k => match k with
  | _ => ("", "", "", false)
def tyJ9 : Nat → FieldType := fun k => match k with
  | _ => .int
abbrev wsJ90 : List Cond := u_ws RJ9 TJ9 0
theorem nmJ9 : ∀ a, a < 0 → ∀ b, b < 0 → a ≠ b → (TJ9 a).2.1 ≠ (TJ9 b).2.1 := by decide +kernel
theorem tyJ9_ok : ∀ k, k < 0 → parseFieldDescriptor (TJ9 k).2.2.1 = some (tyJ9 k) := by decide +kernel
abbrev cJ9_max_7cf53 : ByteArray := prog_12_method_65_code
def yJ9_max_7cf53 : MethodName := ⟨RJ9, "max", "(II)I"⟩
abbrev cJ9_min_7cf53 : ByteArray := prog_12_method_69_code
def yJ9_min_7cf53 : MethodName := ⟨RJ9, "min", "(II)I"⟩
def RJ0 : String := "java/lang/String"
def TJ0 : u_T := fun k => match k with
  | _ => ("", "", "", false)
def tyJ0 : Nat → FieldType := fun k => match k with
  | _ => .int
abbrev wsJ00 : List Cond := u_ws RJ0 TJ0 0
theorem nmJ0 : ∀ a, a < 0 → ∀ b, b < 0 → a ≠ b → (TJ0 a).2.1 ≠ (TJ0 b).2.1 := by decide +kernel
theorem tyJ0_ok : ∀ k, k < 0 → parseFieldDescriptor (TJ0 k).2.2.1 = some (tyJ0 k) := by decide +kernel
abbrev cJ0_length_8abf5 : ByteArray := prog_13_method_54_code
def yJ0_length_8abf5 : MethodName := ⟨RJ0, "length", "()I"⟩
abbrev cJ0_charAt_5068e : ByteArray := prog_13_method_56_code
def yJ0_charAt_5068e : MethodName := ⟨RJ0, "charAt", "(I)C"⟩
abbrev cJ0_coder_7d493 : ByteArray := prog_13_method_152_code
def yJ0_coder_7d493 : MethodName := ⟨RJ0, "coder", "()B"⟩
abbrev cJ0_isLatin1_aae02 : ByteArray := prog_13_method_154_code
def yJ0_isLatin1_aae02 : MethodName := ⟨RJ0, "isLatin1", "()Z"⟩
abbrev cJ0_checkIndex_df160 : ByteArray := prog_13_method_155_code
def yJ0_checkIndex_df160 : MethodName := ⟨RJ0, "checkIndex", "(II)V"⟩
def RJ1 : String := "java/lang/StringLatin1"
def TJ1 : u_T := fun k => match k with
  | _ => ("", "", "", false)
def tyJ1 : Nat → FieldType := fun k => match k with
  | _ => .int
abbrev wsJ10 : List Cond := u_ws RJ1 TJ1 0
theorem nmJ1 : ∀ a, a < 0 → ∀ b, b < 0 → a ≠ b → (TJ1 a).2.1 ≠ (TJ1 b).2.1 := by decide +kernel
theorem tyJ1_ok : ∀ k, k < 0 → parseFieldDescriptor (TJ1 k).2.2.1 = some (tyJ1 k) := by decide +kernel
abbrev cJ1_charAt_3b067 : ByteArray := prog_14_method_2_code
def yJ1_charAt_3b067 : MethodName := ⟨RJ1, "charAt", "([BI)C"⟩
def RJ2 : String := "java/lang/StringUTF16"
def TJ2 : u_T := fun k => match k with
  | _ => ("", "", "", false)
def tyJ2 : Nat → FieldType := fun k => match k with
  | _ => .int
abbrev wsJ20 : List Cond := u_ws RJ2 TJ2 0
theorem nmJ2 : ∀ a, a < 0 → ∀ b, b < 0 → a ≠ b → (TJ2 a).2.1 ≠ (TJ2 b).2.1 := by decide +kernel
theorem tyJ2_ok : ∀ k, k < 0 → parseFieldDescriptor (TJ2 k).2.2.1 = some (tyJ2 k) := by decide +kernel
abbrev cJ2_getChar_3b067 : ByteArray := prog_15_method_5_code
def yJ2_getChar_3b067 : MethodName := ⟨RJ2, "getChar", "([BI)C"⟩
abbrev cJ2_length_9d52b : ByteArray := prog_15_method_6_code
def yJ2_length_9d52b : MethodName := ⟨RJ2, "length", "([B)I"⟩
abbrev cJ2_charAt_3b067 : ByteArray := prog_15_method_83_code
def yJ2_charAt_3b067 : MethodName := ⟨RJ2, "charAt", "([BI)C"⟩
abbrev cJ2_checkIndex_2214a : ByteArray := prog_15_method_91_code
def yJ2_checkIndex_2214a : MethodName := ⟨RJ2, "checkIndex", "(I[B)V"⟩
def RJ3 : String := "jdk/internal/util/Preconditions"
def TJ3 : u_T := fun k => match k with
  | _ => ("", "", "", false)
def tyJ3 : Nat → FieldType := fun k => match k with
  | _ => .int
abbrev wsJ30 : List Cond := u_ws RJ3 TJ3 0
theorem nmJ3 : ∀ a, a < 0 → ∀ b, b < 0 → a ≠ b → (TJ3 a).2.1 ≠ (TJ3 b).2.1 := by decide +kernel
theorem tyJ3_ok : ∀ k, k < 0 → parseFieldDescriptor (TJ3 k).2.2.1 = some (tyJ3 k) := by decide +kernel
abbrev cJ3_checkIndex_8e157 : ByteArray := prog_16_method_11_code
def yJ3_checkIndex_8e157 : MethodName := ⟨RJ3, "checkIndex", "(IILjava/util/function/BiFunction;)I"⟩
def dchk (c : ByteArray) (l : List (Nat × Instr × Nat)) : Bool := l.all (fun q => decide (decode c q.1 = .ok q.2))
theorem dget {c : ByteArray} {l : List (Nat × Instr × Nat)} (h : dchk c l = true) (k : Nat) {p : Nat} {r : Instr × Nat} (hk : l[k]? = some (p, r)) : decode c p = .ok r := of_decide_eq_true (List.all_eq_true.mp h (p, r) (List.mem_of_getElem? hk))
theorem zdX0_init_0 : dchk cX0_init [(0, .aload_n 0, 1), (1, .invokespecial 3, 3), (4, .aload_n 0, 1), (5, .bipush 48, 2), (7, .newarray .int, 2), (9, .putfield 9, 3), (12, .aload_n 0, 1), (13, .bipush 48, 2), (15, .newarray .int, 2), (17, .putfield 15, 3), (20, .aload_n 0, 1), (21, .iconst 0, 1), (22, .putfield 18, 3), (25, .aload_n 0, 1), (26, .iconst 0, 1), (27, .putfield 22, 3), (30, .aload_n 0, 1), (31, .iconst 0, 1), (32, .putfield 25, 3), (35, .return_, 1)] = true := by decide +kernel
theorem dX0_init_0 : decode cX0_init 0 = .ok (.aload_n 0, 1) := dget zdX0_init_0 0 rfl
theorem dX0_init_1 : decode cX0_init 1 = .ok (.invokespecial 3, 3) := dget zdX0_init_0 1 rfl
theorem dX0_init_4 : decode cX0_init 4 = .ok (.aload_n 0, 1) := dget zdX0_init_0 2 rfl
theorem dX0_init_5 : decode cX0_init 5 = .ok (.bipush 48, 2) := dget zdX0_init_0 3 rfl
theorem dX0_init_7 : decode cX0_init 7 = .ok (.newarray .int, 2) := dget zdX0_init_0 4 rfl
theorem dX0_init_9 : decode cX0_init 9 = .ok (.putfield 9, 3) := dget zdX0_init_0 5 rfl
theorem dX0_init_12 : decode cX0_init 12 = .ok (.aload_n 0, 1) := dget zdX0_init_0 6 rfl
theorem dX0_init_13 : decode cX0_init 13 = .ok (.bipush 48, 2) := dget zdX0_init_0 7 rfl
theorem dX0_init_15 : decode cX0_init 15 = .ok (.newarray .int, 2) := dget zdX0_init_0 8 rfl
theorem dX0_init_17 : decode cX0_init 17 = .ok (.putfield 15, 3) := dget zdX0_init_0 9 rfl
theorem dX0_init_20 : decode cX0_init 20 = .ok (.aload_n 0, 1) := dget zdX0_init_0 10 rfl
theorem dX0_init_21 : decode cX0_init 21 = .ok (.iconst 0, 1) := dget zdX0_init_0 11 rfl
theorem dX0_init_22 : decode cX0_init 22 = .ok (.putfield 18, 3) := dget zdX0_init_0 12 rfl
theorem dX0_init_25 : decode cX0_init 25 = .ok (.aload_n 0, 1) := dget zdX0_init_0 13 rfl
theorem dX0_init_26 : decode cX0_init 26 = .ok (.iconst 0, 1) := dget zdX0_init_0 14 rfl
theorem dX0_init_27 : decode cX0_init 27 = .ok (.putfield 22, 3) := dget zdX0_init_0 15 rfl
theorem dX0_init_30 : decode cX0_init 30 = .ok (.aload_n 0, 1) := dget zdX0_init_0 16 rfl
theorem dX0_init_31 : decode cX0_init 31 = .ok (.iconst 0, 1) := dget zdX0_init_0 17 rfl
theorem dX0_init_32 : decode cX0_init 32 = .ok (.putfield 25, 3) := dget zdX0_init_0 18 rfl
theorem dX0_init_35 : decode cX0_init 35 = .ok (.return_, 1) := dget zdX0_init_0 19 rfl
theorem zdX0_clear_0 : dchk cX0_clear [(0, .aload_n 0, 1), (1, .iconst 0, 1), (2, .putfield 18, 3), (5, .aload_n 0, 1), (6, .iconst 0, 1), (7, .putfield 22, 3), (10, .aload_n 0, 1), (11, .iconst 0, 1), (12, .putfield 25, 3), (15, .return_, 1)] = true := by decide +kernel
theorem dX0_clear_0 : decode cX0_clear 0 = .ok (.aload_n 0, 1) := dget zdX0_clear_0 0 rfl
theorem dX0_clear_1 : decode cX0_clear 1 = .ok (.iconst 0, 1) := dget zdX0_clear_0 1 rfl
theorem dX0_clear_2 : decode cX0_clear 2 = .ok (.putfield 18, 3) := dget zdX0_clear_0 2 rfl
theorem dX0_clear_5 : decode cX0_clear 5 = .ok (.aload_n 0, 1) := dget zdX0_clear_0 3 rfl
theorem dX0_clear_6 : decode cX0_clear 6 = .ok (.iconst 0, 1) := dget zdX0_clear_0 4 rfl
theorem dX0_clear_7 : decode cX0_clear 7 = .ok (.putfield 22, 3) := dget zdX0_clear_0 5 rfl
theorem dX0_clear_10 : decode cX0_clear 10 = .ok (.aload_n 0, 1) := dget zdX0_clear_0 6 rfl
theorem dX0_clear_11 : decode cX0_clear 11 = .ok (.iconst 0, 1) := dget zdX0_clear_0 7 rfl
theorem dX0_clear_12 : decode cX0_clear 12 = .ok (.putfield 25, 3) := dget zdX0_clear_0 8 rfl
theorem dX0_clear_15 : decode cX0_clear 15 = .ok (.return_, 1) := dget zdX0_clear_0 9 rfl
theorem zdX0_copyFrom_0 : dchk cX0_copyFrom [(0, .iconst 0, 1), (1, .istore_n 2, 1), (2, .iload_n 2, 1), (3, .bipush 48, 2), (5, .if_icmp .ge 33, 3), (8, .aload_n 0, 1), (9, .getfield 9, 3), (12, .iload_n 2, 1), (13, .aload_n 1, 1), (14, .getfield 9, 3), (17, .iload_n 2, 1), (18, .iaload, 1), (19, .iastore, 1), (20, .aload_n 0, 1), (21, .getfield 15, 3), (24, .iload_n 2, 1), (25, .aload_n 1, 1), (26, .getfield 15, 3), (29, .iload_n 2, 1), (30, .iaload, 1), (31, .iastore, 1), (32, .iinc 2 1, 3), (35, .goto (-33), 3), (38, .aload_n 0, 1), (39, .aload_n 1, 1), (40, .getfield 18, 3), (43, .putfield 18, 3), (46, .aload_n 0, 1), (47, .aload_n 1, 1), (48, .getfield 22, 3), (51, .putfield 22, 3), (54, .aload_n 0, 1), (55, .aload_n 1, 1), (56, .getfield 25, 3), (59, .putfield 25, 3), (62, .return_, 1)] = true := by decide +kernel
theorem dX0_copyFrom_0 : decode cX0_copyFrom 0 = .ok (.iconst 0, 1) := dget zdX0_copyFrom_0 0 rfl
theorem dX0_copyFrom_1 : decode cX0_copyFrom 1 = .ok (.istore_n 2, 1) := dget zdX0_copyFrom_0 1 rfl
theorem dX0_copyFrom_2 : decode cX0_copyFrom 2 = .ok (.iload_n 2, 1) := dget zdX0_copyFrom_0 2 rfl
theorem dX0_copyFrom_3 : decode cX0_copyFrom 3 = .ok (.bipush 48, 2) := dget zdX0_copyFrom_0 3 rfl
theorem dX0_copyFrom_5 : decode cX0_copyFrom 5 = .ok (.if_icmp .ge 33, 3) := dget zdX0_copyFrom_0 4 rfl
theorem dX0_copyFrom_8 : decode cX0_copyFrom 8 = .ok (.aload_n 0, 1) := dget zdX0_copyFrom_0 5 rfl
theorem dX0_copyFrom_9 : decode cX0_copyFrom 9 = .ok (.getfield 9, 3) := dget zdX0_copyFrom_0 6 rfl
theorem dX0_copyFrom_12 : decode cX0_copyFrom 12 = .ok (.iload_n 2, 1) := dget zdX0_copyFrom_0 7 rfl
theorem dX0_copyFrom_13 : decode cX0_copyFrom 13 = .ok (.aload_n 1, 1) := dget zdX0_copyFrom_0 8 rfl
theorem dX0_copyFrom_14 : decode cX0_copyFrom 14 = .ok (.getfield 9, 3) := dget zdX0_copyFrom_0 9 rfl
theorem dX0_copyFrom_17 : decode cX0_copyFrom 17 = .ok (.iload_n 2, 1) := dget zdX0_copyFrom_0 10 rfl
theorem dX0_copyFrom_18 : decode cX0_copyFrom 18 = .ok (.iaload, 1) := dget zdX0_copyFrom_0 11 rfl
theorem dX0_copyFrom_19 : decode cX0_copyFrom 19 = .ok (.iastore, 1) := dget zdX0_copyFrom_0 12 rfl
theorem dX0_copyFrom_20 : decode cX0_copyFrom 20 = .ok (.aload_n 0, 1) := dget zdX0_copyFrom_0 13 rfl
theorem dX0_copyFrom_21 : decode cX0_copyFrom 21 = .ok (.getfield 15, 3) := dget zdX0_copyFrom_0 14 rfl
theorem dX0_copyFrom_24 : decode cX0_copyFrom 24 = .ok (.iload_n 2, 1) := dget zdX0_copyFrom_0 15 rfl
theorem dX0_copyFrom_25 : decode cX0_copyFrom 25 = .ok (.aload_n 1, 1) := dget zdX0_copyFrom_0 16 rfl
theorem dX0_copyFrom_26 : decode cX0_copyFrom 26 = .ok (.getfield 15, 3) := dget zdX0_copyFrom_0 17 rfl
theorem dX0_copyFrom_29 : decode cX0_copyFrom 29 = .ok (.iload_n 2, 1) := dget zdX0_copyFrom_0 18 rfl
theorem dX0_copyFrom_30 : decode cX0_copyFrom 30 = .ok (.iaload, 1) := dget zdX0_copyFrom_0 19 rfl
theorem dX0_copyFrom_31 : decode cX0_copyFrom 31 = .ok (.iastore, 1) := dget zdX0_copyFrom_0 20 rfl
theorem dX0_copyFrom_32 : decode cX0_copyFrom 32 = .ok (.iinc 2 1, 3) := dget zdX0_copyFrom_0 21 rfl
theorem dX0_copyFrom_35 : decode cX0_copyFrom 35 = .ok (.goto (-33), 3) := dget zdX0_copyFrom_0 22 rfl
theorem dX0_copyFrom_38 : decode cX0_copyFrom 38 = .ok (.aload_n 0, 1) := dget zdX0_copyFrom_0 23 rfl
theorem dX0_copyFrom_39 : decode cX0_copyFrom 39 = .ok (.aload_n 1, 1) := dget zdX0_copyFrom_0 24 rfl
theorem dX0_copyFrom_40 : decode cX0_copyFrom 40 = .ok (.getfield 18, 3) := dget zdX0_copyFrom_0 25 rfl
theorem dX0_copyFrom_43 : decode cX0_copyFrom 43 = .ok (.putfield 18, 3) := dget zdX0_copyFrom_0 26 rfl
theorem dX0_copyFrom_46 : decode cX0_copyFrom 46 = .ok (.aload_n 0, 1) := dget zdX0_copyFrom_0 27 rfl
theorem dX0_copyFrom_47 : decode cX0_copyFrom 47 = .ok (.aload_n 1, 1) := dget zdX0_copyFrom_0 28 rfl
theorem dX0_copyFrom_48 : decode cX0_copyFrom 48 = .ok (.getfield 22, 3) := dget zdX0_copyFrom_0 29 rfl
theorem dX0_copyFrom_51 : decode cX0_copyFrom 51 = .ok (.putfield 22, 3) := dget zdX0_copyFrom_0 30 rfl
theorem dX0_copyFrom_54 : decode cX0_copyFrom 54 = .ok (.aload_n 0, 1) := dget zdX0_copyFrom_0 31 rfl
theorem dX0_copyFrom_55 : decode cX0_copyFrom 55 = .ok (.aload_n 1, 1) := dget zdX0_copyFrom_0 32 rfl
theorem dX0_copyFrom_56 : decode cX0_copyFrom 56 = .ok (.getfield 25, 3) := dget zdX0_copyFrom_0 33 rfl
theorem dX0_copyFrom_59 : decode cX0_copyFrom 59 = .ok (.putfield 25, 3) := dget zdX0_copyFrom_0 34 rfl
theorem dX0_copyFrom_62 : decode cX0_copyFrom 62 = .ok (.return_, 1) := dget zdX0_copyFrom_0 35 rfl
theorem zdX0_cells_0 : dchk cX0_cells [(0, .aload_n 0, 1), (1, .getfield 22, 3), (4, .aload_n 0, 1), (5, .getfield 18, 3), (8, .imul, 1), (9, .ireturn, 1)] = true := by decide +kernel
theorem dX0_cells_0 : decode cX0_cells 0 = .ok (.aload_n 0, 1) := dget zdX0_cells_0 0 rfl
theorem dX0_cells_1 : decode cX0_cells 1 = .ok (.getfield 22, 3) := dget zdX0_cells_0 1 rfl
theorem dX0_cells_4 : decode cX0_cells 4 = .ok (.aload_n 0, 1) := dget zdX0_cells_0 2 rfl
theorem dX0_cells_5 : decode cX0_cells 5 = .ok (.getfield 18, 3) := dget zdX0_cells_0 3 rfl
theorem dX0_cells_8 : decode cX0_cells 8 = .ok (.imul, 1) := dget zdX0_cells_0 4 rfl
theorem dX0_cells_9 : decode cX0_cells 9 = .ok (.ireturn, 1) := dget zdX0_cells_0 5 rfl
theorem zdX0_hasCell_0 : dchk cX0_hasCell [(0, .iload_n 1, 1), (1, .ifCond .lt 26, 3), (4, .iload_n 1, 1), (5, .aload_n 0, 1), (6, .getfield 22, 3), (9, .aload_n 0, 1), (10, .getfield 18, 3), (13, .imul, 1), (14, .if_icmp .ge 13, 3), (17, .iload_n 1, 1), (18, .bipush 48, 2), (20, .if_icmp .ge 7, 3), (23, .iconst 1, 1), (24, .goto 4, 3), (27, .iconst 0, 1), (28, .ireturn, 1)] = true := by decide +kernel
theorem dX0_hasCell_0 : decode cX0_hasCell 0 = .ok (.iload_n 1, 1) := dget zdX0_hasCell_0 0 rfl
theorem dX0_hasCell_1 : decode cX0_hasCell 1 = .ok (.ifCond .lt 26, 3) := dget zdX0_hasCell_0 1 rfl
theorem dX0_hasCell_4 : decode cX0_hasCell 4 = .ok (.iload_n 1, 1) := dget zdX0_hasCell_0 2 rfl
theorem dX0_hasCell_5 : decode cX0_hasCell 5 = .ok (.aload_n 0, 1) := dget zdX0_hasCell_0 3 rfl
theorem dX0_hasCell_6 : decode cX0_hasCell 6 = .ok (.getfield 22, 3) := dget zdX0_hasCell_0 4 rfl
theorem dX0_hasCell_9 : decode cX0_hasCell 9 = .ok (.aload_n 0, 1) := dget zdX0_hasCell_0 5 rfl
theorem dX0_hasCell_10 : decode cX0_hasCell 10 = .ok (.getfield 18, 3) := dget zdX0_hasCell_0 6 rfl
theorem dX0_hasCell_13 : decode cX0_hasCell 13 = .ok (.imul, 1) := dget zdX0_hasCell_0 7 rfl
theorem dX0_hasCell_14 : decode cX0_hasCell 14 = .ok (.if_icmp .ge 13, 3) := dget zdX0_hasCell_0 8 rfl
theorem dX0_hasCell_17 : decode cX0_hasCell 17 = .ok (.iload_n 1, 1) := dget zdX0_hasCell_0 9 rfl
theorem dX0_hasCell_18 : decode cX0_hasCell 18 = .ok (.bipush 48, 2) := dget zdX0_hasCell_0 10 rfl
theorem dX0_hasCell_20 : decode cX0_hasCell 20 = .ok (.if_icmp .ge 7, 3) := dget zdX0_hasCell_0 11 rfl
theorem dX0_hasCell_23 : decode cX0_hasCell 23 = .ok (.iconst 1, 1) := dget zdX0_hasCell_0 12 rfl
theorem dX0_hasCell_24 : decode cX0_hasCell 24 = .ok (.goto 4, 3) := dget zdX0_hasCell_0 13 rfl
theorem dX0_hasCell_27 : decode cX0_hasCell 27 = .ok (.iconst 0, 1) := dget zdX0_hasCell_0 14 rfl
theorem dX0_hasCell_28 : decode cX0_hasCell 28 = .ok (.ireturn, 1) := dget zdX0_hasCell_0 15 rfl
theorem zdX0_hasColumn_0 : dchk cX0_hasColumn [(0, .iload_n 1, 1), (1, .ifCond .lt 15, 3), (4, .iload_n 1, 1), (5, .aload_n 0, 1), (6, .getfield 18, 3), (9, .if_icmp .ge 7, 3), (12, .iconst 1, 1), (13, .goto 4, 3), (16, .iconst 0, 1), (17, .ireturn, 1)] = true := by decide +kernel
theorem dX0_hasColumn_0 : decode cX0_hasColumn 0 = .ok (.iload_n 1, 1) := dget zdX0_hasColumn_0 0 rfl
theorem dX0_hasColumn_1 : decode cX0_hasColumn 1 = .ok (.ifCond .lt 15, 3) := dget zdX0_hasColumn_0 1 rfl
theorem dX0_hasColumn_4 : decode cX0_hasColumn 4 = .ok (.iload_n 1, 1) := dget zdX0_hasColumn_0 2 rfl
theorem dX0_hasColumn_5 : decode cX0_hasColumn 5 = .ok (.aload_n 0, 1) := dget zdX0_hasColumn_0 3 rfl
theorem dX0_hasColumn_6 : decode cX0_hasColumn 6 = .ok (.getfield 18, 3) := dget zdX0_hasColumn_0 4 rfl
theorem dX0_hasColumn_9 : decode cX0_hasColumn 9 = .ok (.if_icmp .ge 7, 3) := dget zdX0_hasColumn_0 5 rfl
theorem dX0_hasColumn_12 : decode cX0_hasColumn 12 = .ok (.iconst 1, 1) := dget zdX0_hasColumn_0 6 rfl
theorem dX0_hasColumn_13 : decode cX0_hasColumn 13 = .ok (.goto 4, 3) := dget zdX0_hasColumn_0 7 rfl
theorem dX0_hasColumn_16 : decode cX0_hasColumn 16 = .ok (.iconst 0, 1) := dget zdX0_hasColumn_0 8 rfl
theorem dX0_hasColumn_17 : decode cX0_hasColumn 17 = .ok (.ireturn, 1) := dget zdX0_hasColumn_0 9 rfl
theorem zdX0_hasRow_0 : dchk cX0_hasRow [(0, .iload_n 1, 1), (1, .ifCond .lt 15, 3), (4, .iload_n 1, 1), (5, .aload_n 0, 1), (6, .getfield 22, 3), (9, .if_icmp .ge 7, 3), (12, .iconst 1, 1), (13, .goto 4, 3), (16, .iconst 0, 1), (17, .ireturn, 1)] = true := by decide +kernel
theorem dX0_hasRow_0 : decode cX0_hasRow 0 = .ok (.iload_n 1, 1) := dget zdX0_hasRow_0 0 rfl
theorem dX0_hasRow_1 : decode cX0_hasRow 1 = .ok (.ifCond .lt 15, 3) := dget zdX0_hasRow_0 1 rfl
theorem dX0_hasRow_4 : decode cX0_hasRow 4 = .ok (.iload_n 1, 1) := dget zdX0_hasRow_0 2 rfl
theorem dX0_hasRow_5 : decode cX0_hasRow 5 = .ok (.aload_n 0, 1) := dget zdX0_hasRow_0 3 rfl
theorem dX0_hasRow_6 : decode cX0_hasRow 6 = .ok (.getfield 22, 3) := dget zdX0_hasRow_0 4 rfl
theorem dX0_hasRow_9 : decode cX0_hasRow 9 = .ok (.if_icmp .ge 7, 3) := dget zdX0_hasRow_0 5 rfl
theorem dX0_hasRow_12 : decode cX0_hasRow 12 = .ok (.iconst 1, 1) := dget zdX0_hasRow_0 6 rfl
theorem dX0_hasRow_13 : decode cX0_hasRow 13 = .ok (.goto 4, 3) := dget zdX0_hasRow_0 7 rfl
theorem dX0_hasRow_16 : decode cX0_hasRow 16 = .ok (.iconst 0, 1) := dget zdX0_hasRow_0 8 rfl
theorem dX0_hasRow_17 : decode cX0_hasRow 17 = .ok (.ireturn, 1) := dget zdX0_hasRow_0 9 rfl
theorem zdX0_addRow_0 : dchk cX0_addRow [(0, .iload_n 1, 1), (1, .iconst 2, 1), (2, .if_icmp .lt 18, 3), (5, .iload_n 1, 1), (6, .bipush 6, 2), (8, .if_icmp .gt 12, 3), (11, .aload_n 0, 1), (12, .getfield 22, 3), (15, .bipush 8, 2), (17, .if_icmp .lt 5, 3), (20, .iconst 0, 1), (21, .ireturn, 1), (22, .aload_n 0, 1), (23, .getfield 22, 3), (26, .ifCond .le 13, 3), (29, .iload_n 1, 1), (30, .aload_n 0, 1), (31, .getfield 18, 3), (34, .if_icmp .eq 5, 3), (37, .iconst 0, 1), (38, .ireturn, 1), (39, .aload_n 0, 1), (40, .iload_n 1, 1), (41, .putfield 18, 3), (44, .aload_n 0, 1), (45, .dup, 1), (46, .getfield 22, 3), (49, .iconst 1, 1), (50, .iadd, 1), (51, .putfield 22, 3), (54, .aload_n 0, 1), (55, .invokevirtual 28, 3), (58, .iload_n 1, 1), (59, .isub, 1), (60, .istore_n 2, 1), (61, .iload_n 2, 1), (62, .aload_n 0, 1), (63, .invokevirtual 28, 3), (66, .if_icmp .ge 21, 3), (69, .aload_n 0, 1), (70, .iload_n 2, 1), (71, .iconst 0, 1), (72, .invokevirtual 32, 3), (75, .aload_n 0, 1), (76, .iload_n 2, 1), (77, .iconst 4, 1), (78, .invokevirtual 36, 3), (81, .iinc 2 1, 3), (84, .goto (-23), 3), (87, .iconst 1, 1), (88, .ireturn, 1)] = true := by decide +kernel
theorem dX0_addRow_0 : decode cX0_addRow 0 = .ok (.iload_n 1, 1) := dget zdX0_addRow_0 0 rfl
theorem dX0_addRow_1 : decode cX0_addRow 1 = .ok (.iconst 2, 1) := dget zdX0_addRow_0 1 rfl
theorem dX0_addRow_2 : decode cX0_addRow 2 = .ok (.if_icmp .lt 18, 3) := dget zdX0_addRow_0 2 rfl
theorem dX0_addRow_5 : decode cX0_addRow 5 = .ok (.iload_n 1, 1) := dget zdX0_addRow_0 3 rfl
theorem dX0_addRow_6 : decode cX0_addRow 6 = .ok (.bipush 6, 2) := dget zdX0_addRow_0 4 rfl
theorem dX0_addRow_8 : decode cX0_addRow 8 = .ok (.if_icmp .gt 12, 3) := dget zdX0_addRow_0 5 rfl
theorem dX0_addRow_11 : decode cX0_addRow 11 = .ok (.aload_n 0, 1) := dget zdX0_addRow_0 6 rfl
theorem dX0_addRow_12 : decode cX0_addRow 12 = .ok (.getfield 22, 3) := dget zdX0_addRow_0 7 rfl
theorem dX0_addRow_15 : decode cX0_addRow 15 = .ok (.bipush 8, 2) := dget zdX0_addRow_0 8 rfl
theorem dX0_addRow_17 : decode cX0_addRow 17 = .ok (.if_icmp .lt 5, 3) := dget zdX0_addRow_0 9 rfl
theorem dX0_addRow_20 : decode cX0_addRow 20 = .ok (.iconst 0, 1) := dget zdX0_addRow_0 10 rfl
theorem dX0_addRow_21 : decode cX0_addRow 21 = .ok (.ireturn, 1) := dget zdX0_addRow_0 11 rfl
theorem dX0_addRow_22 : decode cX0_addRow 22 = .ok (.aload_n 0, 1) := dget zdX0_addRow_0 12 rfl
theorem dX0_addRow_23 : decode cX0_addRow 23 = .ok (.getfield 22, 3) := dget zdX0_addRow_0 13 rfl
theorem dX0_addRow_26 : decode cX0_addRow 26 = .ok (.ifCond .le 13, 3) := dget zdX0_addRow_0 14 rfl
theorem dX0_addRow_29 : decode cX0_addRow 29 = .ok (.iload_n 1, 1) := dget zdX0_addRow_0 15 rfl
theorem dX0_addRow_30 : decode cX0_addRow 30 = .ok (.aload_n 0, 1) := dget zdX0_addRow_0 16 rfl
theorem dX0_addRow_31 : decode cX0_addRow 31 = .ok (.getfield 18, 3) := dget zdX0_addRow_0 17 rfl
theorem dX0_addRow_34 : decode cX0_addRow 34 = .ok (.if_icmp .eq 5, 3) := dget zdX0_addRow_0 18 rfl
theorem dX0_addRow_37 : decode cX0_addRow 37 = .ok (.iconst 0, 1) := dget zdX0_addRow_0 19 rfl
theorem dX0_addRow_38 : decode cX0_addRow 38 = .ok (.ireturn, 1) := dget zdX0_addRow_0 20 rfl
theorem dX0_addRow_39 : decode cX0_addRow 39 = .ok (.aload_n 0, 1) := dget zdX0_addRow_0 21 rfl
theorem dX0_addRow_40 : decode cX0_addRow 40 = .ok (.iload_n 1, 1) := dget zdX0_addRow_0 22 rfl
theorem dX0_addRow_41 : decode cX0_addRow 41 = .ok (.putfield 18, 3) := dget zdX0_addRow_0 23 rfl
theorem dX0_addRow_44 : decode cX0_addRow 44 = .ok (.aload_n 0, 1) := dget zdX0_addRow_0 24 rfl
theorem dX0_addRow_45 : decode cX0_addRow 45 = .ok (.dup, 1) := dget zdX0_addRow_0 25 rfl
theorem dX0_addRow_46 : decode cX0_addRow 46 = .ok (.getfield 22, 3) := dget zdX0_addRow_0 26 rfl
theorem dX0_addRow_49 : decode cX0_addRow 49 = .ok (.iconst 1, 1) := dget zdX0_addRow_0 27 rfl
theorem dX0_addRow_50 : decode cX0_addRow 50 = .ok (.iadd, 1) := dget zdX0_addRow_0 28 rfl
theorem dX0_addRow_51 : decode cX0_addRow 51 = .ok (.putfield 22, 3) := dget zdX0_addRow_0 29 rfl
theorem dX0_addRow_54 : decode cX0_addRow 54 = .ok (.aload_n 0, 1) := dget zdX0_addRow_0 30 rfl
theorem dX0_addRow_55 : decode cX0_addRow 55 = .ok (.invokevirtual 28, 3) := dget zdX0_addRow_0 31 rfl
theorem dX0_addRow_58 : decode cX0_addRow 58 = .ok (.iload_n 1, 1) := dget zdX0_addRow_0 32 rfl
theorem dX0_addRow_59 : decode cX0_addRow 59 = .ok (.isub, 1) := dget zdX0_addRow_0 33 rfl
theorem dX0_addRow_60 : decode cX0_addRow 60 = .ok (.istore_n 2, 1) := dget zdX0_addRow_0 34 rfl
theorem dX0_addRow_61 : decode cX0_addRow 61 = .ok (.iload_n 2, 1) := dget zdX0_addRow_0 35 rfl
theorem dX0_addRow_62 : decode cX0_addRow 62 = .ok (.aload_n 0, 1) := dget zdX0_addRow_0 36 rfl
theorem dX0_addRow_63 : decode cX0_addRow 63 = .ok (.invokevirtual 28, 3) := dget zdX0_addRow_0 37 rfl
theorem dX0_addRow_66 : decode cX0_addRow 66 = .ok (.if_icmp .ge 21, 3) := dget zdX0_addRow_0 38 rfl
theorem dX0_addRow_69 : decode cX0_addRow 69 = .ok (.aload_n 0, 1) := dget zdX0_addRow_0 39 rfl
theorem dX0_addRow_70 : decode cX0_addRow 70 = .ok (.iload_n 2, 1) := dget zdX0_addRow_0 40 rfl
theorem dX0_addRow_71 : decode cX0_addRow 71 = .ok (.iconst 0, 1) := dget zdX0_addRow_0 41 rfl
theorem dX0_addRow_72 : decode cX0_addRow 72 = .ok (.invokevirtual 32, 3) := dget zdX0_addRow_0 42 rfl
theorem dX0_addRow_75 : decode cX0_addRow 75 = .ok (.aload_n 0, 1) := dget zdX0_addRow_0 43 rfl
theorem dX0_addRow_76 : decode cX0_addRow 76 = .ok (.iload_n 2, 1) := dget zdX0_addRow_0 44 rfl
theorem dX0_addRow_77 : decode cX0_addRow 77 = .ok (.iconst 4, 1) := dget zdX0_addRow_0 45 rfl
theorem dX0_addRow_78 : decode cX0_addRow 78 = .ok (.invokevirtual 36, 3) := dget zdX0_addRow_0 46 rfl
theorem dX0_addRow_81 : decode cX0_addRow 81 = .ok (.iinc 2 1, 3) := dget zdX0_addRow_0 47 rfl
theorem dX0_addRow_84 : decode cX0_addRow 84 = .ok (.goto (-23), 3) := dget zdX0_addRow_0 48 rfl
theorem dX0_addRow_87 : decode cX0_addRow 87 = .ok (.iconst 1, 1) := dget zdX0_addRow_0 49 rfl
theorem dX0_addRow_88 : decode cX0_addRow 88 = .ok (.ireturn, 1) := dget zdX0_addRow_0 50 rfl
theorem zdX0_thingOn_0 : dchk cX0_thingOn [(0, .aload_n 0, 1), (1, .iload_n 1, 1), (2, .invokevirtual 39, 3), (5, .ifCond .eq 12, 3), (8, .aload_n 0, 1), (9, .getfield 9, 3), (12, .iload_n 1, 1), (13, .iaload, 1), (14, .goto 4, 3), (17, .iconst 0, 1), (18, .ireturn, 1)] = true := by decide +kernel
theorem dX0_thingOn_0 : decode cX0_thingOn 0 = .ok (.aload_n 0, 1) := dget zdX0_thingOn_0 0 rfl
theorem dX0_thingOn_1 : decode cX0_thingOn 1 = .ok (.iload_n 1, 1) := dget zdX0_thingOn_0 1 rfl
theorem dX0_thingOn_2 : decode cX0_thingOn 2 = .ok (.invokevirtual 39, 3) := dget zdX0_thingOn_0 2 rfl
theorem dX0_thingOn_5 : decode cX0_thingOn 5 = .ok (.ifCond .eq 12, 3) := dget zdX0_thingOn_0 3 rfl
theorem dX0_thingOn_8 : decode cX0_thingOn 8 = .ok (.aload_n 0, 1) := dget zdX0_thingOn_0 4 rfl
theorem dX0_thingOn_9 : decode cX0_thingOn 9 = .ok (.getfield 9, 3) := dget zdX0_thingOn_0 5 rfl
theorem dX0_thingOn_12 : decode cX0_thingOn 12 = .ok (.iload_n 1, 1) := dget zdX0_thingOn_0 6 rfl
theorem dX0_thingOn_13 : decode cX0_thingOn 13 = .ok (.iaload, 1) := dget zdX0_thingOn_0 7 rfl
theorem dX0_thingOn_14 : decode cX0_thingOn 14 = .ok (.goto 4, 3) := dget zdX0_thingOn_0 8 rfl
theorem dX0_thingOn_17 : decode cX0_thingOn 17 = .ok (.iconst 0, 1) := dget zdX0_thingOn_0 9 rfl
theorem dX0_thingOn_18 : decode cX0_thingOn 18 = .ok (.ireturn, 1) := dget zdX0_thingOn_0 10 rfl
theorem zdX0_ownerOf_0 : dchk cX0_ownerOf [(0, .aload_n 0, 1), (1, .iload_n 1, 1), (2, .invokevirtual 39, 3), (5, .ifCond .eq 12, 3), (8, .aload_n 0, 1), (9, .getfield 15, 3), (12, .iload_n 1, 1), (13, .iaload, 1), (14, .goto 4, 3), (17, .iconst 4, 1), (18, .ireturn, 1)] = true := by decide +kernel
theorem dX0_ownerOf_0 : decode cX0_ownerOf 0 = .ok (.aload_n 0, 1) := dget zdX0_ownerOf_0 0 rfl
theorem dX0_ownerOf_1 : decode cX0_ownerOf 1 = .ok (.iload_n 1, 1) := dget zdX0_ownerOf_0 1 rfl
theorem dX0_ownerOf_2 : decode cX0_ownerOf 2 = .ok (.invokevirtual 39, 3) := dget zdX0_ownerOf_0 2 rfl
theorem dX0_ownerOf_5 : decode cX0_ownerOf 5 = .ok (.ifCond .eq 12, 3) := dget zdX0_ownerOf_0 3 rfl
theorem dX0_ownerOf_8 : decode cX0_ownerOf 8 = .ok (.aload_n 0, 1) := dget zdX0_ownerOf_0 4 rfl
theorem dX0_ownerOf_9 : decode cX0_ownerOf 9 = .ok (.getfield 15, 3) := dget zdX0_ownerOf_0 5 rfl
theorem dX0_ownerOf_12 : decode cX0_ownerOf 12 = .ok (.iload_n 1, 1) := dget zdX0_ownerOf_0 6 rfl
theorem dX0_ownerOf_13 : decode cX0_ownerOf 13 = .ok (.iaload, 1) := dget zdX0_ownerOf_0 7 rfl
theorem dX0_ownerOf_14 : decode cX0_ownerOf 14 = .ok (.goto 4, 3) := dget zdX0_ownerOf_0 8 rfl
theorem dX0_ownerOf_17 : decode cX0_ownerOf 17 = .ok (.iconst 4, 1) := dget zdX0_ownerOf_0 9 rfl
theorem dX0_ownerOf_18 : decode cX0_ownerOf 18 = .ok (.ireturn, 1) := dget zdX0_ownerOf_0 10 rfl
theorem zdX0_putThing_0 : dchk cX0_putThing [(0, .aload_n 0, 1), (1, .iload_n 1, 1), (2, .invokevirtual 39, 3), (5, .ifCond .eq 10, 3), (8, .aload_n 0, 1), (9, .getfield 9, 3), (12, .iload_n 1, 1), (13, .iload_n 2, 1), (14, .iastore, 1), (15, .return_, 1)] = true := by decide +kernel
theorem dX0_putThing_0 : decode cX0_putThing 0 = .ok (.aload_n 0, 1) := dget zdX0_putThing_0 0 rfl
theorem dX0_putThing_1 : decode cX0_putThing 1 = .ok (.iload_n 1, 1) := dget zdX0_putThing_0 1 rfl
theorem dX0_putThing_2 : decode cX0_putThing 2 = .ok (.invokevirtual 39, 3) := dget zdX0_putThing_0 2 rfl
theorem dX0_putThing_5 : decode cX0_putThing 5 = .ok (.ifCond .eq 10, 3) := dget zdX0_putThing_0 3 rfl
theorem dX0_putThing_8 : decode cX0_putThing 8 = .ok (.aload_n 0, 1) := dget zdX0_putThing_0 4 rfl
theorem dX0_putThing_9 : decode cX0_putThing 9 = .ok (.getfield 9, 3) := dget zdX0_putThing_0 5 rfl
theorem dX0_putThing_12 : decode cX0_putThing 12 = .ok (.iload_n 1, 1) := dget zdX0_putThing_0 6 rfl
theorem dX0_putThing_13 : decode cX0_putThing 13 = .ok (.iload_n 2, 1) := dget zdX0_putThing_0 7 rfl
theorem dX0_putThing_14 : decode cX0_putThing 14 = .ok (.iastore, 1) := dget zdX0_putThing_0 8 rfl
theorem dX0_putThing_15 : decode cX0_putThing 15 = .ok (.return_, 1) := dget zdX0_putThing_0 9 rfl
theorem zdX0_putOwner_0 : dchk cX0_putOwner [(0, .aload_n 0, 1), (1, .iload_n 1, 1), (2, .invokevirtual 39, 3), (5, .ifCond .eq 10, 3), (8, .aload_n 0, 1), (9, .getfield 15, 3), (12, .iload_n 1, 1), (13, .iload_n 2, 1), (14, .iastore, 1), (15, .return_, 1)] = true := by decide +kernel
theorem dX0_putOwner_0 : decode cX0_putOwner 0 = .ok (.aload_n 0, 1) := dget zdX0_putOwner_0 0 rfl
theorem dX0_putOwner_1 : decode cX0_putOwner 1 = .ok (.iload_n 1, 1) := dget zdX0_putOwner_0 1 rfl
theorem dX0_putOwner_2 : decode cX0_putOwner 2 = .ok (.invokevirtual 39, 3) := dget zdX0_putOwner_0 2 rfl
theorem dX0_putOwner_5 : decode cX0_putOwner 5 = .ok (.ifCond .eq 10, 3) := dget zdX0_putOwner_0 3 rfl
theorem dX0_putOwner_8 : decode cX0_putOwner 8 = .ok (.aload_n 0, 1) := dget zdX0_putOwner_0 4 rfl
theorem dX0_putOwner_9 : decode cX0_putOwner 9 = .ok (.getfield 15, 3) := dget zdX0_putOwner_0 5 rfl
theorem dX0_putOwner_12 : decode cX0_putOwner 12 = .ok (.iload_n 1, 1) := dget zdX0_putOwner_0 6 rfl
theorem dX0_putOwner_13 : decode cX0_putOwner 13 = .ok (.iload_n 2, 1) := dget zdX0_putOwner_0 7 rfl
theorem dX0_putOwner_14 : decode cX0_putOwner 14 = .ok (.iastore, 1) := dget zdX0_putOwner_0 8 rfl
theorem dX0_putOwner_15 : decode cX0_putOwner 15 = .ok (.return_, 1) := dget zdX0_putOwner_0 9 rfl
theorem zdX0_cellsOf_0 : dchk cX0_cellsOf [(0, .iconst 0, 1), (1, .istore_n 2, 1), (2, .iconst 0, 1), (3, .istore_n 3, 1), (4, .iload_n 3, 1), (5, .aload_n 0, 1), (6, .invokevirtual 28, 3), (9, .if_icmp .ge 21, 3), (12, .aload_n 0, 1), (13, .iload_n 3, 1), (14, .invokevirtual 43, 3), (17, .iload_n 1, 1), (18, .if_icmp .ne 6, 3), (21, .iinc 2 1, 3), (24, .iinc 3 1, 3), (27, .goto (-23), 3), (30, .iload_n 2, 1), (31, .ireturn, 1)] = true := by decide +kernel
theorem dX0_cellsOf_0 : decode cX0_cellsOf 0 = .ok (.iconst 0, 1) := dget zdX0_cellsOf_0 0 rfl
theorem dX0_cellsOf_1 : decode cX0_cellsOf 1 = .ok (.istore_n 2, 1) := dget zdX0_cellsOf_0 1 rfl
theorem dX0_cellsOf_2 : decode cX0_cellsOf 2 = .ok (.iconst 0, 1) := dget zdX0_cellsOf_0 2 rfl
theorem dX0_cellsOf_3 : decode cX0_cellsOf 3 = .ok (.istore_n 3, 1) := dget zdX0_cellsOf_0 3 rfl
theorem dX0_cellsOf_4 : decode cX0_cellsOf 4 = .ok (.iload_n 3, 1) := dget zdX0_cellsOf_0 4 rfl
theorem dX0_cellsOf_5 : decode cX0_cellsOf 5 = .ok (.aload_n 0, 1) := dget zdX0_cellsOf_0 5 rfl
theorem dX0_cellsOf_6 : decode cX0_cellsOf 6 = .ok (.invokevirtual 28, 3) := dget zdX0_cellsOf_0 6 rfl
theorem dX0_cellsOf_9 : decode cX0_cellsOf 9 = .ok (.if_icmp .ge 21, 3) := dget zdX0_cellsOf_0 7 rfl
theorem dX0_cellsOf_12 : decode cX0_cellsOf 12 = .ok (.aload_n 0, 1) := dget zdX0_cellsOf_0 8 rfl
theorem dX0_cellsOf_13 : decode cX0_cellsOf 13 = .ok (.iload_n 3, 1) := dget zdX0_cellsOf_0 9 rfl
theorem dX0_cellsOf_14 : decode cX0_cellsOf 14 = .ok (.invokevirtual 43, 3) := dget zdX0_cellsOf_0 10 rfl
theorem dX0_cellsOf_17 : decode cX0_cellsOf 17 = .ok (.iload_n 1, 1) := dget zdX0_cellsOf_0 11 rfl
theorem dX0_cellsOf_18 : decode cX0_cellsOf 18 = .ok (.if_icmp .ne 6, 3) := dget zdX0_cellsOf_0 12 rfl
theorem dX0_cellsOf_21 : decode cX0_cellsOf 21 = .ok (.iinc 2 1, 3) := dget zdX0_cellsOf_0 13 rfl
theorem dX0_cellsOf_24 : decode cX0_cellsOf 24 = .ok (.iinc 3 1, 3) := dget zdX0_cellsOf_0 14 rfl
theorem dX0_cellsOf_27 : decode cX0_cellsOf 27 = .ok (.goto (-23), 3) := dget zdX0_cellsOf_0 15 rfl
theorem dX0_cellsOf_30 : decode cX0_cellsOf 30 = .ok (.iload_n 2, 1) := dget zdX0_cellsOf_0 16 rfl
theorem dX0_cellsOf_31 : decode cX0_cellsOf 31 = .ok (.ireturn, 1) := dget zdX0_cellsOf_0 17 rfl
theorem zdX0_cellsOfSides_0 : dchk cX0_cellsOfSides [(0, .aload_n 0, 1), (1, .invokevirtual 28, 3), (4, .aload_n 0, 1), (5, .iconst 4, 1), (6, .invokevirtual 47, 3), (9, .isub, 1), (10, .ireturn, 1)] = true := by decide +kernel
theorem dX0_cellsOfSides_0 : decode cX0_cellsOfSides 0 = .ok (.aload_n 0, 1) := dget zdX0_cellsOfSides_0 0 rfl
theorem dX0_cellsOfSides_1 : decode cX0_cellsOfSides 1 = .ok (.invokevirtual 28, 3) := dget zdX0_cellsOfSides_0 1 rfl
theorem dX0_cellsOfSides_4 : decode cX0_cellsOfSides 4 = .ok (.aload_n 0, 1) := dget zdX0_cellsOfSides_0 2 rfl
theorem dX0_cellsOfSides_5 : decode cX0_cellsOfSides 5 = .ok (.iconst 4, 1) := dget zdX0_cellsOfSides_0 3 rfl
theorem dX0_cellsOfSides_6 : decode cX0_cellsOfSides 6 = .ok (.invokevirtual 47, 3) := dget zdX0_cellsOfSides_0 4 rfl
theorem dX0_cellsOfSides_9 : decode cX0_cellsOfSides 9 = .ok (.isub, 1) := dget zdX0_cellsOfSides_0 5 rfl
theorem dX0_cellsOfSides_10 : decode cX0_cellsOfSides 10 = .ok (.ireturn, 1) := dget zdX0_cellsOfSides_0 6 rfl
theorem zdX0_cellsWith_0 : dchk cX0_cellsWith [(0, .iconst 0, 1), (1, .istore_n 2, 1), (2, .iconst 0, 1), (3, .istore_n 3, 1), (4, .iload_n 3, 1), (5, .aload_n 0, 1), (6, .invokevirtual 28, 3), (9, .if_icmp .ge 21, 3), (12, .aload_n 0, 1), (13, .iload_n 3, 1), (14, .invokevirtual 50, 3), (17, .iload_n 1, 1), (18, .if_icmp .ne 6, 3), (21, .iinc 2 1, 3), (24, .iinc 3 1, 3), (27, .goto (-23), 3), (30, .iload_n 2, 1), (31, .ireturn, 1)] = true := by decide +kernel
theorem dX0_cellsWith_0 : decode cX0_cellsWith 0 = .ok (.iconst 0, 1) := dget zdX0_cellsWith_0 0 rfl
theorem dX0_cellsWith_1 : decode cX0_cellsWith 1 = .ok (.istore_n 2, 1) := dget zdX0_cellsWith_0 1 rfl
theorem dX0_cellsWith_2 : decode cX0_cellsWith 2 = .ok (.iconst 0, 1) := dget zdX0_cellsWith_0 2 rfl
theorem dX0_cellsWith_3 : decode cX0_cellsWith 3 = .ok (.istore_n 3, 1) := dget zdX0_cellsWith_0 3 rfl
theorem dX0_cellsWith_4 : decode cX0_cellsWith 4 = .ok (.iload_n 3, 1) := dget zdX0_cellsWith_0 4 rfl
theorem dX0_cellsWith_5 : decode cX0_cellsWith 5 = .ok (.aload_n 0, 1) := dget zdX0_cellsWith_0 5 rfl
theorem dX0_cellsWith_6 : decode cX0_cellsWith 6 = .ok (.invokevirtual 28, 3) := dget zdX0_cellsWith_0 6 rfl
theorem dX0_cellsWith_9 : decode cX0_cellsWith 9 = .ok (.if_icmp .ge 21, 3) := dget zdX0_cellsWith_0 7 rfl
theorem dX0_cellsWith_12 : decode cX0_cellsWith 12 = .ok (.aload_n 0, 1) := dget zdX0_cellsWith_0 8 rfl
theorem dX0_cellsWith_13 : decode cX0_cellsWith 13 = .ok (.iload_n 3, 1) := dget zdX0_cellsWith_0 9 rfl
theorem dX0_cellsWith_14 : decode cX0_cellsWith 14 = .ok (.invokevirtual 50, 3) := dget zdX0_cellsWith_0 10 rfl
theorem dX0_cellsWith_17 : decode cX0_cellsWith 17 = .ok (.iload_n 1, 1) := dget zdX0_cellsWith_0 11 rfl
theorem dX0_cellsWith_18 : decode cX0_cellsWith 18 = .ok (.if_icmp .ne 6, 3) := dget zdX0_cellsWith_0 12 rfl
theorem dX0_cellsWith_21 : decode cX0_cellsWith 21 = .ok (.iinc 2 1, 3) := dget zdX0_cellsWith_0 13 rfl
theorem dX0_cellsWith_24 : decode cX0_cellsWith 24 = .ok (.iinc 3 1, 3) := dget zdX0_cellsWith_0 14 rfl
theorem dX0_cellsWith_27 : decode cX0_cellsWith 27 = .ok (.goto (-23), 3) := dget zdX0_cellsWith_0 15 rfl
theorem dX0_cellsWith_30 : decode cX0_cellsWith 30 = .ok (.iload_n 2, 1) := dget zdX0_cellsWith_0 16 rfl
theorem dX0_cellsWith_31 : decode cX0_cellsWith 31 = .ok (.ireturn, 1) := dget zdX0_cellsWith_0 17 rfl
theorem zdX0_freezable_0 : dchk cX0_freezable [(0, .iconst 0, 1), (1, .istore_n 2, 1), (2, .iload_n 1, 1), (3, .aload_n 0, 1), (4, .getfield 18, 3), (7, .imul, 1), (8, .istore_n 3, 1), (9, .iload_n 3, 1), (10, .iload_n 1, 1), (11, .iconst 1, 1), (12, .iadd, 1), (13, .aload_n 0, 1), (14, .getfield 18, 3), (17, .imul, 1), (18, .if_icmp .ge 28, 3), (21, .aload_n 0, 1), (22, .iload_n 3, 1), (23, .invokevirtual 50, 3), (26, .invokestatic 53, 3), (29, .aload_n 0, 1), (30, .iload_n 3, 1), (31, .invokevirtual 50, 3), (34, .if_icmp .eq 6, 3), (37, .iinc 2 1, 3), (40, .iinc 3 1, 3), (43, .goto (-34), 3), (46, .iload_n 2, 1), (47, .ireturn, 1)] = true := by decide +kernel
theorem dX0_freezable_0 : decode cX0_freezable 0 = .ok (.iconst 0, 1) := dget zdX0_freezable_0 0 rfl
theorem dX0_freezable_1 : decode cX0_freezable 1 = .ok (.istore_n 2, 1) := dget zdX0_freezable_0 1 rfl
theorem dX0_freezable_2 : decode cX0_freezable 2 = .ok (.iload_n 1, 1) := dget zdX0_freezable_0 2 rfl
theorem dX0_freezable_3 : decode cX0_freezable 3 = .ok (.aload_n 0, 1) := dget zdX0_freezable_0 3 rfl
theorem dX0_freezable_4 : decode cX0_freezable 4 = .ok (.getfield 18, 3) := dget zdX0_freezable_0 4 rfl
theorem dX0_freezable_7 : decode cX0_freezable 7 = .ok (.imul, 1) := dget zdX0_freezable_0 5 rfl
theorem dX0_freezable_8 : decode cX0_freezable 8 = .ok (.istore_n 3, 1) := dget zdX0_freezable_0 6 rfl
theorem dX0_freezable_9 : decode cX0_freezable 9 = .ok (.iload_n 3, 1) := dget zdX0_freezable_0 7 rfl
theorem dX0_freezable_10 : decode cX0_freezable 10 = .ok (.iload_n 1, 1) := dget zdX0_freezable_0 8 rfl
theorem dX0_freezable_11 : decode cX0_freezable 11 = .ok (.iconst 1, 1) := dget zdX0_freezable_0 9 rfl
theorem dX0_freezable_12 : decode cX0_freezable 12 = .ok (.iadd, 1) := dget zdX0_freezable_0 10 rfl
theorem dX0_freezable_13 : decode cX0_freezable 13 = .ok (.aload_n 0, 1) := dget zdX0_freezable_0 11 rfl
theorem dX0_freezable_14 : decode cX0_freezable 14 = .ok (.getfield 18, 3) := dget zdX0_freezable_0 12 rfl
theorem dX0_freezable_17 : decode cX0_freezable 17 = .ok (.imul, 1) := dget zdX0_freezable_0 13 rfl
theorem dX0_freezable_18 : decode cX0_freezable 18 = .ok (.if_icmp .ge 28, 3) := dget zdX0_freezable_0 14 rfl
theorem dX0_freezable_21 : decode cX0_freezable 21 = .ok (.aload_n 0, 1) := dget zdX0_freezable_0 15 rfl
theorem dX0_freezable_22 : decode cX0_freezable 22 = .ok (.iload_n 3, 1) := dget zdX0_freezable_0 16 rfl
theorem dX0_freezable_23 : decode cX0_freezable 23 = .ok (.invokevirtual 50, 3) := dget zdX0_freezable_0 17 rfl
theorem dX0_freezable_26 : decode cX0_freezable 26 = .ok (.invokestatic 53, 3) := dget zdX0_freezable_0 18 rfl
theorem dX0_freezable_29 : decode cX0_freezable 29 = .ok (.aload_n 0, 1) := dget zdX0_freezable_0 19 rfl
theorem dX0_freezable_30 : decode cX0_freezable 30 = .ok (.iload_n 3, 1) := dget zdX0_freezable_0 20 rfl
theorem dX0_freezable_31 : decode cX0_freezable 31 = .ok (.invokevirtual 50, 3) := dget zdX0_freezable_0 21 rfl
theorem dX0_freezable_34 : decode cX0_freezable 34 = .ok (.if_icmp .eq 6, 3) := dget zdX0_freezable_0 22 rfl
theorem dX0_freezable_37 : decode cX0_freezable 37 = .ok (.iinc 2 1, 3) := dget zdX0_freezable_0 23 rfl
theorem dX0_freezable_40 : decode cX0_freezable 40 = .ok (.iinc 3 1, 3) := dget zdX0_freezable_0 24 rfl
theorem dX0_freezable_43 : decode cX0_freezable 43 = .ok (.goto (-34), 3) := dget zdX0_freezable_0 25 rfl
theorem dX0_freezable_46 : decode cX0_freezable 46 = .ok (.iload_n 2, 1) := dget zdX0_freezable_0 26 rfl
theorem dX0_freezable_47 : decode cX0_freezable 47 = .ok (.ireturn, 1) := dget zdX0_freezable_0 27 rfl
theorem zdX0_freeze_0 : dchk cX0_freeze [(0, .iload_n 1, 1), (1, .aload_n 0, 1), (2, .getfield 18, 3), (5, .imul, 1), (6, .istore_n 2, 1), (7, .iload_n 2, 1), (8, .iload_n 1, 1), (9, .iconst 1, 1), (10, .iadd, 1), (11, .aload_n 0, 1), (12, .getfield 18, 3), (15, .imul, 1), (16, .if_icmp .ge 22, 3), (19, .aload_n 0, 1), (20, .iload_n 2, 1), (21, .aload_n 0, 1), (22, .iload_n 2, 1), (23, .invokevirtual 50, 3), (26, .invokestatic 53, 3), (29, .invokevirtual 32, 3), (32, .iinc 2 1, 3), (35, .goto (-28), 3), (38, .return_, 1)] = true := by decide +kernel
theorem dX0_freeze_0 : decode cX0_freeze 0 = .ok (.iload_n 1, 1) := dget zdX0_freeze_0 0 rfl
theorem dX0_freeze_1 : decode cX0_freeze 1 = .ok (.aload_n 0, 1) := dget zdX0_freeze_0 1 rfl
theorem dX0_freeze_2 : decode cX0_freeze 2 = .ok (.getfield 18, 3) := dget zdX0_freeze_0 2 rfl
theorem dX0_freeze_5 : decode cX0_freeze 5 = .ok (.imul, 1) := dget zdX0_freeze_0 3 rfl
theorem dX0_freeze_6 : decode cX0_freeze 6 = .ok (.istore_n 2, 1) := dget zdX0_freeze_0 4 rfl
theorem dX0_freeze_7 : decode cX0_freeze 7 = .ok (.iload_n 2, 1) := dget zdX0_freeze_0 5 rfl
theorem dX0_freeze_8 : decode cX0_freeze 8 = .ok (.iload_n 1, 1) := dget zdX0_freeze_0 6 rfl
theorem dX0_freeze_9 : decode cX0_freeze 9 = .ok (.iconst 1, 1) := dget zdX0_freeze_0 7 rfl
theorem dX0_freeze_10 : decode cX0_freeze 10 = .ok (.iadd, 1) := dget zdX0_freeze_0 8 rfl
theorem dX0_freeze_11 : decode cX0_freeze 11 = .ok (.aload_n 0, 1) := dget zdX0_freeze_0 9 rfl
theorem dX0_freeze_12 : decode cX0_freeze 12 = .ok (.getfield 18, 3) := dget zdX0_freeze_0 10 rfl
theorem dX0_freeze_15 : decode cX0_freeze 15 = .ok (.imul, 1) := dget zdX0_freeze_0 11 rfl
theorem dX0_freeze_16 : decode cX0_freeze 16 = .ok (.if_icmp .ge 22, 3) := dget zdX0_freeze_0 12 rfl
theorem dX0_freeze_19 : decode cX0_freeze 19 = .ok (.aload_n 0, 1) := dget zdX0_freeze_0 13 rfl
theorem dX0_freeze_20 : decode cX0_freeze 20 = .ok (.iload_n 2, 1) := dget zdX0_freeze_0 14 rfl
theorem dX0_freeze_21 : decode cX0_freeze 21 = .ok (.aload_n 0, 1) := dget zdX0_freeze_0 15 rfl
theorem dX0_freeze_22 : decode cX0_freeze 22 = .ok (.iload_n 2, 1) := dget zdX0_freeze_0 16 rfl
theorem dX0_freeze_23 : decode cX0_freeze 23 = .ok (.invokevirtual 50, 3) := dget zdX0_freeze_0 17 rfl
theorem dX0_freeze_26 : decode cX0_freeze 26 = .ok (.invokestatic 53, 3) := dget zdX0_freeze_0 18 rfl
theorem dX0_freeze_29 : decode cX0_freeze 29 = .ok (.invokevirtual 32, 3) := dget zdX0_freeze_0 19 rfl
theorem dX0_freeze_32 : decode cX0_freeze 32 = .ok (.iinc 2 1, 3) := dget zdX0_freeze_0 20 rfl
theorem dX0_freeze_35 : decode cX0_freeze 35 = .ok (.goto (-28), 3) := dget zdX0_freeze_0 21 rfl
theorem dX0_freeze_38 : decode cX0_freeze 38 = .ok (.return_, 1) := dget zdX0_freeze_0 22 rfl
theorem zdX0_frozen_0 : dchk cX0_frozen [(0, .iload_n 0, 1), (1, .lookupswitch 31 #[(0, 27), (2, 29)], 27), (28, .iconst 1, 1), (29, .ireturn, 1), (30, .iconst 0, 1), (31, .ireturn, 1), (32, .iload_n 0, 1), (33, .ireturn, 1)] = true := by decide +kernel
theorem dX0_frozen_0 : decode cX0_frozen 0 = .ok (.iload_n 0, 1) := dget zdX0_frozen_0 0 rfl
theorem dX0_frozen_1 : decode cX0_frozen 1 = .ok (.lookupswitch 31 #[(0, 27), (2, 29)], 27) := dget zdX0_frozen_0 1 rfl
theorem dX0_frozen_28 : decode cX0_frozen 28 = .ok (.iconst 1, 1) := dget zdX0_frozen_0 2 rfl
theorem dX0_frozen_29 : decode cX0_frozen 29 = .ok (.ireturn, 1) := dget zdX0_frozen_0 3 rfl
theorem dX0_frozen_30 : decode cX0_frozen 30 = .ok (.iconst 0, 1) := dget zdX0_frozen_0 4 rfl
theorem dX0_frozen_31 : decode cX0_frozen 31 = .ok (.ireturn, 1) := dget zdX0_frozen_0 5 rfl
theorem dX0_frozen_32 : decode cX0_frozen 32 = .ok (.iload_n 0, 1) := dget zdX0_frozen_0 6 rfl
theorem dX0_frozen_33 : decode cX0_frozen 33 = .ok (.ireturn, 1) := dget zdX0_frozen_0 7 rfl
theorem zdX0_beside_0 : dchk cX0_beside [(0, .aload_n 0, 1), (1, .iload_n 1, 1), (2, .invokevirtual 39, 3), (5, .ifCond .eq 10, 3), (8, .aload_n 0, 1), (9, .getfield 18, 3), (12, .ifCond .gt 6, 3), (15, .bipush (-4), 2), (17, .ireturn, 1), (18, .iload_n 1, 1), (19, .aload_n 0, 1), (20, .getfield 18, 3), (23, .irem, 1), (24, .istore_n 3, 1), (25, .iload_n 1, 1), (26, .aload_n 0, 1), (27, .getfield 18, 3), (30, .idiv, 1), (31, .istore 4, 2), (33, .iload_n 2, 1), (34, .tableswitch 75 0 2 #[26, 39, 58], 26), (60, .iload_n 3, 1), (61, .ifCond .le 9, 3), (64, .iload_n 1, 1), (65, .iconst 1, 1), (66, .isub, 1), (67, .goto 5, 3), (70, .bipush (-4), 2), (72, .ireturn, 1), (73, .iload_n 3, 1), (74, .iconst 1, 1), (75, .iadd, 1), (76, .aload_n 0, 1), (77, .getfield 18, 3), (80, .if_icmp .ge 9, 3), (83, .iload_n 1, 1), (84, .iconst 1, 1), (85, .iadd, 1), (86, .goto 5, 3), (89, .bipush (-4), 2), (91, .ireturn, 1), (92, .iload 4, 2), (94, .ifCond .le 12, 3), (97, .iload_n 1, 1), (98, .aload_n 0, 1), (99, .getfield 18, 3), (102, .isub, 1), (103, .goto 5, 3), (106, .bipush (-4), 2), (108, .ireturn, 1), (109, .iload 4, 2), (111, .iconst 1, 1), (112, .iadd, 1), (113, .aload_n 0, 1), (114, .getfield 22, 3), (117, .if_icmp .ge 12, 3), (120, .iload_n 1, 1), (121, .aload_n 0, 1), (122, .getfield 18, 3), (125, .iadd, 1), (126, .goto 5, 3), (129, .bipush (-4), 2), (131, .ireturn, 1)] = true := by decide +kernel
theorem dX0_beside_0 : decode cX0_beside 0 = .ok (.aload_n 0, 1) := dget zdX0_beside_0 0 rfl
theorem dX0_beside_1 : decode cX0_beside 1 = .ok (.iload_n 1, 1) := dget zdX0_beside_0 1 rfl
theorem dX0_beside_2 : decode cX0_beside 2 = .ok (.invokevirtual 39, 3) := dget zdX0_beside_0 2 rfl
theorem dX0_beside_5 : decode cX0_beside 5 = .ok (.ifCond .eq 10, 3) := dget zdX0_beside_0 3 rfl
theorem dX0_beside_8 : decode cX0_beside 8 = .ok (.aload_n 0, 1) := dget zdX0_beside_0 4 rfl
theorem dX0_beside_9 : decode cX0_beside 9 = .ok (.getfield 18, 3) := dget zdX0_beside_0 5 rfl
theorem dX0_beside_12 : decode cX0_beside 12 = .ok (.ifCond .gt 6, 3) := dget zdX0_beside_0 6 rfl
theorem dX0_beside_15 : decode cX0_beside 15 = .ok (.bipush (-4), 2) := dget zdX0_beside_0 7 rfl
theorem dX0_beside_17 : decode cX0_beside 17 = .ok (.ireturn, 1) := dget zdX0_beside_0 8 rfl
theorem dX0_beside_18 : decode cX0_beside 18 = .ok (.iload_n 1, 1) := dget zdX0_beside_0 9 rfl
theorem dX0_beside_19 : decode cX0_beside 19 = .ok (.aload_n 0, 1) := dget zdX0_beside_0 10 rfl
theorem dX0_beside_20 : decode cX0_beside 20 = .ok (.getfield 18, 3) := dget zdX0_beside_0 11 rfl
theorem dX0_beside_23 : decode cX0_beside 23 = .ok (.irem, 1) := dget zdX0_beside_0 12 rfl
theorem dX0_beside_24 : decode cX0_beside 24 = .ok (.istore_n 3, 1) := dget zdX0_beside_0 13 rfl
theorem dX0_beside_25 : decode cX0_beside 25 = .ok (.iload_n 1, 1) := dget zdX0_beside_0 14 rfl
theorem dX0_beside_26 : decode cX0_beside 26 = .ok (.aload_n 0, 1) := dget zdX0_beside_0 15 rfl
theorem dX0_beside_27 : decode cX0_beside 27 = .ok (.getfield 18, 3) := dget zdX0_beside_0 16 rfl
theorem dX0_beside_30 : decode cX0_beside 30 = .ok (.idiv, 1) := dget zdX0_beside_0 17 rfl
theorem dX0_beside_31 : decode cX0_beside 31 = .ok (.istore 4, 2) := dget zdX0_beside_0 18 rfl
theorem dX0_beside_33 : decode cX0_beside 33 = .ok (.iload_n 2, 1) := dget zdX0_beside_0 19 rfl
theorem dX0_beside_34 : decode cX0_beside 34 = .ok (.tableswitch 75 0 2 #[26, 39, 58], 26) := dget zdX0_beside_0 20 rfl
theorem dX0_beside_60 : decode cX0_beside 60 = .ok (.iload_n 3, 1) := dget zdX0_beside_0 21 rfl
theorem dX0_beside_61 : decode cX0_beside 61 = .ok (.ifCond .le 9, 3) := dget zdX0_beside_0 22 rfl
theorem dX0_beside_64 : decode cX0_beside 64 = .ok (.iload_n 1, 1) := dget zdX0_beside_0 23 rfl
theorem dX0_beside_65 : decode cX0_beside 65 = .ok (.iconst 1, 1) := dget zdX0_beside_0 24 rfl
theorem dX0_beside_66 : decode cX0_beside 66 = .ok (.isub, 1) := dget zdX0_beside_0 25 rfl
theorem dX0_beside_67 : decode cX0_beside 67 = .ok (.goto 5, 3) := dget zdX0_beside_0 26 rfl
theorem dX0_beside_70 : decode cX0_beside 70 = .ok (.bipush (-4), 2) := dget zdX0_beside_0 27 rfl
theorem dX0_beside_72 : decode cX0_beside 72 = .ok (.ireturn, 1) := dget zdX0_beside_0 28 rfl
theorem dX0_beside_73 : decode cX0_beside 73 = .ok (.iload_n 3, 1) := dget zdX0_beside_0 29 rfl
theorem dX0_beside_74 : decode cX0_beside 74 = .ok (.iconst 1, 1) := dget zdX0_beside_0 30 rfl
theorem dX0_beside_75 : decode cX0_beside 75 = .ok (.iadd, 1) := dget zdX0_beside_0 31 rfl
theorem dX0_beside_76 : decode cX0_beside 76 = .ok (.aload_n 0, 1) := dget zdX0_beside_0 32 rfl
theorem dX0_beside_77 : decode cX0_beside 77 = .ok (.getfield 18, 3) := dget zdX0_beside_0 33 rfl
theorem dX0_beside_80 : decode cX0_beside 80 = .ok (.if_icmp .ge 9, 3) := dget zdX0_beside_0 34 rfl
theorem dX0_beside_83 : decode cX0_beside 83 = .ok (.iload_n 1, 1) := dget zdX0_beside_0 35 rfl
theorem dX0_beside_84 : decode cX0_beside 84 = .ok (.iconst 1, 1) := dget zdX0_beside_0 36 rfl
theorem dX0_beside_85 : decode cX0_beside 85 = .ok (.iadd, 1) := dget zdX0_beside_0 37 rfl
theorem dX0_beside_86 : decode cX0_beside 86 = .ok (.goto 5, 3) := dget zdX0_beside_0 38 rfl
theorem dX0_beside_89 : decode cX0_beside 89 = .ok (.bipush (-4), 2) := dget zdX0_beside_0 39 rfl
theorem dX0_beside_91 : decode cX0_beside 91 = .ok (.ireturn, 1) := dget zdX0_beside_0 40 rfl
theorem dX0_beside_92 : decode cX0_beside 92 = .ok (.iload 4, 2) := dget zdX0_beside_0 41 rfl
theorem dX0_beside_94 : decode cX0_beside 94 = .ok (.ifCond .le 12, 3) := dget zdX0_beside_0 42 rfl
theorem dX0_beside_97 : decode cX0_beside 97 = .ok (.iload_n 1, 1) := dget zdX0_beside_0 43 rfl
theorem dX0_beside_98 : decode cX0_beside 98 = .ok (.aload_n 0, 1) := dget zdX0_beside_0 44 rfl
theorem dX0_beside_99 : decode cX0_beside 99 = .ok (.getfield 18, 3) := dget zdX0_beside_0 45 rfl
theorem dX0_beside_102 : decode cX0_beside 102 = .ok (.isub, 1) := dget zdX0_beside_0 46 rfl
theorem dX0_beside_103 : decode cX0_beside 103 = .ok (.goto 5, 3) := dget zdX0_beside_0 47 rfl
theorem dX0_beside_106 : decode cX0_beside 106 = .ok (.bipush (-4), 2) := dget zdX0_beside_0 48 rfl
theorem dX0_beside_108 : decode cX0_beside 108 = .ok (.ireturn, 1) := dget zdX0_beside_0 49 rfl
theorem dX0_beside_109 : decode cX0_beside 109 = .ok (.iload 4, 2) := dget zdX0_beside_0 50 rfl
theorem dX0_beside_111 : decode cX0_beside 111 = .ok (.iconst 1, 1) := dget zdX0_beside_0 51 rfl
theorem dX0_beside_112 : decode cX0_beside 112 = .ok (.iadd, 1) := dget zdX0_beside_0 52 rfl
theorem dX0_beside_113 : decode cX0_beside 113 = .ok (.aload_n 0, 1) := dget zdX0_beside_0 53 rfl
theorem dX0_beside_114 : decode cX0_beside 114 = .ok (.getfield 22, 3) := dget zdX0_beside_0 54 rfl
theorem dX0_beside_117 : decode cX0_beside 117 = .ok (.if_icmp .ge 12, 3) := dget zdX0_beside_0 55 rfl
theorem dX0_beside_120 : decode cX0_beside 120 = .ok (.iload_n 1, 1) := dget zdX0_beside_0 56 rfl
theorem dX0_beside_121 : decode cX0_beside 121 = .ok (.aload_n 0, 1) := dget zdX0_beside_0 57 rfl
theorem dX0_beside_122 : decode cX0_beside 122 = .ok (.getfield 18, 3) := dget zdX0_beside_0 58 rfl
theorem dX0_beside_125 : decode cX0_beside 125 = .ok (.iadd, 1) := dget zdX0_beside_0 59 rfl
theorem dX0_beside_126 : decode cX0_beside 126 = .ok (.goto 5, 3) := dget zdX0_beside_0 60 rfl
theorem dX0_beside_129 : decode cX0_beside 129 = .ok (.bipush (-4), 2) := dget zdX0_beside_0 61 rfl
theorem dX0_beside_131 : decode cX0_beside 131 = .ok (.ireturn, 1) := dget zdX0_beside_0 62 rfl
theorem zdX1_init_0 : dchk cX1_init [(0, .aload_n 0, 1), (1, .invokespecial 3, 3), (4, .aload_n 0, 1), (5, .bipush 48, 2), (7, .newarray .int, 2), (9, .putfield 9, 3), (12, .aload_n 0, 1), (13, .bipush 48, 2), (15, .newarray .int, 2), (17, .putfield 15, 3), (20, .aload_n 0, 1), (21, .iconst 0, 1), (22, .putfield 18, 3), (25, .return_, 1)] = true := by decide +kernel
theorem dX1_init_0 : decode cX1_init 0 = .ok (.aload_n 0, 1) := dget zdX1_init_0 0 rfl
theorem dX1_init_1 : decode cX1_init 1 = .ok (.invokespecial 3, 3) := dget zdX1_init_0 1 rfl
theorem dX1_init_4 : decode cX1_init 4 = .ok (.aload_n 0, 1) := dget zdX1_init_0 2 rfl
theorem dX1_init_5 : decode cX1_init 5 = .ok (.bipush 48, 2) := dget zdX1_init_0 3 rfl
theorem dX1_init_7 : decode cX1_init 7 = .ok (.newarray .int, 2) := dget zdX1_init_0 4 rfl
theorem dX1_init_9 : decode cX1_init 9 = .ok (.putfield 9, 3) := dget zdX1_init_0 5 rfl
theorem dX1_init_12 : decode cX1_init 12 = .ok (.aload_n 0, 1) := dget zdX1_init_0 6 rfl
theorem dX1_init_13 : decode cX1_init 13 = .ok (.bipush 48, 2) := dget zdX1_init_0 7 rfl
theorem dX1_init_15 : decode cX1_init 15 = .ok (.newarray .int, 2) := dget zdX1_init_0 8 rfl
theorem dX1_init_17 : decode cX1_init 17 = .ok (.putfield 15, 3) := dget zdX1_init_0 9 rfl
theorem dX1_init_20 : decode cX1_init 20 = .ok (.aload_n 0, 1) := dget zdX1_init_0 10 rfl
theorem dX1_init_21 : decode cX1_init 21 = .ok (.iconst 0, 1) := dget zdX1_init_0 11 rfl
theorem dX1_init_22 : decode cX1_init 22 = .ok (.putfield 18, 3) := dget zdX1_init_0 12 rfl
theorem dX1_init_25 : decode cX1_init 25 = .ok (.return_, 1) := dget zdX1_init_0 13 rfl
theorem zdX1_piecesOf_0 : dchk cX1_piecesOf [(0, .aload_n 0, 1), (1, .iconst 0, 1), (2, .invokevirtual 22, 3), (5, .iconst 0, 1), (6, .istore_n 3, 1), (7, .iconst 0, 1), (8, .istore 4, 2), (10, .iload 4, 2), (12, .aload_n 1, 1), (13, .invokevirtual 26, 3), (16, .if_icmp .ge 39, 3), (19, .aload_n 1, 1), (20, .iload 4, 2), (22, .invokevirtual 32, 3), (25, .iload_n 2, 1), (26, .if_icmp .ne 23, 3), (29, .aload_n 0, 1), (30, .iload 4, 2), (32, .invokevirtual 36, 3), (35, .ifCond .ne 14, 3), (38, .iinc 3 1, 3), (41, .aload_n 0, 1), (42, .aload_n 1, 1), (43, .iload_n 2, 1), (44, .iload 4, 2), (46, .invokevirtual 39, 3), (49, .iinc 4 1, 3), (52, .goto (-42), 3), (55, .iload_n 3, 1), (56, .ireturn, 1)] = true := by decide +kernel
theorem dX1_piecesOf_0 : decode cX1_piecesOf 0 = .ok (.aload_n 0, 1) := dget zdX1_piecesOf_0 0 rfl
theorem dX1_piecesOf_1 : decode cX1_piecesOf 1 = .ok (.iconst 0, 1) := dget zdX1_piecesOf_0 1 rfl
theorem dX1_piecesOf_2 : decode cX1_piecesOf 2 = .ok (.invokevirtual 22, 3) := dget zdX1_piecesOf_0 2 rfl
theorem dX1_piecesOf_5 : decode cX1_piecesOf 5 = .ok (.iconst 0, 1) := dget zdX1_piecesOf_0 3 rfl
theorem dX1_piecesOf_6 : decode cX1_piecesOf 6 = .ok (.istore_n 3, 1) := dget zdX1_piecesOf_0 4 rfl
theorem dX1_piecesOf_7 : decode cX1_piecesOf 7 = .ok (.iconst 0, 1) := dget zdX1_piecesOf_0 5 rfl
theorem dX1_piecesOf_8 : decode cX1_piecesOf 8 = .ok (.istore 4, 2) := dget zdX1_piecesOf_0 6 rfl
theorem dX1_piecesOf_10 : decode cX1_piecesOf 10 = .ok (.iload 4, 2) := dget zdX1_piecesOf_0 7 rfl
theorem dX1_piecesOf_12 : decode cX1_piecesOf 12 = .ok (.aload_n 1, 1) := dget zdX1_piecesOf_0 8 rfl
theorem dX1_piecesOf_13 : decode cX1_piecesOf 13 = .ok (.invokevirtual 26, 3) := dget zdX1_piecesOf_0 9 rfl
theorem dX1_piecesOf_16 : decode cX1_piecesOf 16 = .ok (.if_icmp .ge 39, 3) := dget zdX1_piecesOf_0 10 rfl
theorem dX1_piecesOf_19 : decode cX1_piecesOf 19 = .ok (.aload_n 1, 1) := dget zdX1_piecesOf_0 11 rfl
theorem dX1_piecesOf_20 : decode cX1_piecesOf 20 = .ok (.iload 4, 2) := dget zdX1_piecesOf_0 12 rfl
theorem dX1_piecesOf_22 : decode cX1_piecesOf 22 = .ok (.invokevirtual 32, 3) := dget zdX1_piecesOf_0 13 rfl
theorem dX1_piecesOf_25 : decode cX1_piecesOf 25 = .ok (.iload_n 2, 1) := dget zdX1_piecesOf_0 14 rfl
theorem dX1_piecesOf_26 : decode cX1_piecesOf 26 = .ok (.if_icmp .ne 23, 3) := dget zdX1_piecesOf_0 15 rfl
theorem dX1_piecesOf_29 : decode cX1_piecesOf 29 = .ok (.aload_n 0, 1) := dget zdX1_piecesOf_0 16 rfl
theorem dX1_piecesOf_30 : decode cX1_piecesOf 30 = .ok (.iload 4, 2) := dget zdX1_piecesOf_0 17 rfl
theorem dX1_piecesOf_32 : decode cX1_piecesOf 32 = .ok (.invokevirtual 36, 3) := dget zdX1_piecesOf_0 18 rfl
theorem dX1_piecesOf_35 : decode cX1_piecesOf 35 = .ok (.ifCond .ne 14, 3) := dget zdX1_piecesOf_0 19 rfl
theorem dX1_piecesOf_38 : decode cX1_piecesOf 38 = .ok (.iinc 3 1, 3) := dget zdX1_piecesOf_0 20 rfl
theorem dX1_piecesOf_41 : decode cX1_piecesOf 41 = .ok (.aload_n 0, 1) := dget zdX1_piecesOf_0 21 rfl
theorem dX1_piecesOf_42 : decode cX1_piecesOf 42 = .ok (.aload_n 1, 1) := dget zdX1_piecesOf_0 22 rfl
theorem dX1_piecesOf_43 : decode cX1_piecesOf 43 = .ok (.iload_n 2, 1) := dget zdX1_piecesOf_0 23 rfl
theorem dX1_piecesOf_44 : decode cX1_piecesOf 44 = .ok (.iload 4, 2) := dget zdX1_piecesOf_0 24 rfl
theorem dX1_piecesOf_46 : decode cX1_piecesOf 46 = .ok (.invokevirtual 39, 3) := dget zdX1_piecesOf_0 25 rfl
theorem dX1_piecesOf_49 : decode cX1_piecesOf 49 = .ok (.iinc 4 1, 3) := dget zdX1_piecesOf_0 26 rfl
theorem dX1_piecesOf_52 : decode cX1_piecesOf 52 = .ok (.goto (-42), 3) := dget zdX1_piecesOf_0 27 rfl
theorem dX1_piecesOf_55 : decode cX1_piecesOf 55 = .ok (.iload_n 3, 1) := dget zdX1_piecesOf_0 28 rfl
theorem dX1_piecesOf_56 : decode cX1_piecesOf 56 = .ok (.ireturn, 1) := dget zdX1_piecesOf_0 29 rfl
theorem zdX1_markPiece_0 : dchk cX1_markPiece [(0, .aload_n 0, 1), (1, .iconst 0, 1), (2, .putfield 18, 3), (5, .aload_n 0, 1), (6, .iload_n 3, 1), (7, .invokevirtual 43, 3), (10, .iconst 0, 1), (11, .istore 4, 2), (13, .iload 4, 2), (15, .bipush 48, 2), (17, .if_icmp .ge 79, 3), (20, .aload_n 0, 1), (21, .getfield 18, 3), (24, .ifCond .le 72, 3), (27, .aload_n 0, 1), (28, .invokevirtual 46, 3), (31, .istore 5, 2), (33, .iconst 0, 1), (34, .istore 6, 2), (36, .iload 6, 2), (38, .iconst 4, 1), (39, .if_icmp .ge 51, 3), (42, .aload_n 1, 1), (43, .iload 5, 2), (45, .iload 6, 2), (47, .invokevirtual 49, 3), (50, .istore 7, 2), (52, .iload 7, 2), (54, .bipush (-4), 2), (56, .if_icmp .eq 28, 3), (59, .aload_n 1, 1), (60, .iload 7, 2), (62, .invokevirtual 32, 3), (65, .iload_n 2, 1), (66, .if_icmp .ne 18, 3), (69, .aload_n 0, 1), (70, .iload 7, 2), (72, .invokevirtual 36, 3), (75, .ifCond .ne 9, 3), (78, .aload_n 0, 1), (79, .iload 7, 2), (81, .invokevirtual 43, 3), (84, .iinc 6 1, 3), (87, .goto (-51), 3), (90, .iinc 4 1, 3), (93, .goto (-80), 3), (96, .return_, 1)] = true := by decide +kernel
theorem dX1_markPiece_0 : decode cX1_markPiece 0 = .ok (.aload_n 0, 1) := dget zdX1_markPiece_0 0 rfl
theorem dX1_markPiece_1 : decode cX1_markPiece 1 = .ok (.iconst 0, 1) := dget zdX1_markPiece_0 1 rfl
theorem dX1_markPiece_2 : decode cX1_markPiece 2 = .ok (.putfield 18, 3) := dget zdX1_markPiece_0 2 rfl
theorem dX1_markPiece_5 : decode cX1_markPiece 5 = .ok (.aload_n 0, 1) := dget zdX1_markPiece_0 3 rfl
theorem dX1_markPiece_6 : decode cX1_markPiece 6 = .ok (.iload_n 3, 1) := dget zdX1_markPiece_0 4 rfl
theorem dX1_markPiece_7 : decode cX1_markPiece 7 = .ok (.invokevirtual 43, 3) := dget zdX1_markPiece_0 5 rfl
theorem dX1_markPiece_10 : decode cX1_markPiece 10 = .ok (.iconst 0, 1) := dget zdX1_markPiece_0 6 rfl
theorem dX1_markPiece_11 : decode cX1_markPiece 11 = .ok (.istore 4, 2) := dget zdX1_markPiece_0 7 rfl
theorem dX1_markPiece_13 : decode cX1_markPiece 13 = .ok (.iload 4, 2) := dget zdX1_markPiece_0 8 rfl
theorem dX1_markPiece_15 : decode cX1_markPiece 15 = .ok (.bipush 48, 2) := dget zdX1_markPiece_0 9 rfl
theorem dX1_markPiece_17 : decode cX1_markPiece 17 = .ok (.if_icmp .ge 79, 3) := dget zdX1_markPiece_0 10 rfl
theorem dX1_markPiece_20 : decode cX1_markPiece 20 = .ok (.aload_n 0, 1) := dget zdX1_markPiece_0 11 rfl
theorem dX1_markPiece_21 : decode cX1_markPiece 21 = .ok (.getfield 18, 3) := dget zdX1_markPiece_0 12 rfl
theorem dX1_markPiece_24 : decode cX1_markPiece 24 = .ok (.ifCond .le 72, 3) := dget zdX1_markPiece_0 13 rfl
theorem dX1_markPiece_27 : decode cX1_markPiece 27 = .ok (.aload_n 0, 1) := dget zdX1_markPiece_0 14 rfl
theorem dX1_markPiece_28 : decode cX1_markPiece 28 = .ok (.invokevirtual 46, 3) := dget zdX1_markPiece_0 15 rfl
theorem dX1_markPiece_31 : decode cX1_markPiece 31 = .ok (.istore 5, 2) := dget zdX1_markPiece_0 16 rfl
theorem dX1_markPiece_33 : decode cX1_markPiece 33 = .ok (.iconst 0, 1) := dget zdX1_markPiece_0 17 rfl
theorem dX1_markPiece_34 : decode cX1_markPiece 34 = .ok (.istore 6, 2) := dget zdX1_markPiece_0 18 rfl
theorem dX1_markPiece_36 : decode cX1_markPiece 36 = .ok (.iload 6, 2) := dget zdX1_markPiece_0 19 rfl
theorem dX1_markPiece_38 : decode cX1_markPiece 38 = .ok (.iconst 4, 1) := dget zdX1_markPiece_0 20 rfl
theorem dX1_markPiece_39 : decode cX1_markPiece 39 = .ok (.if_icmp .ge 51, 3) := dget zdX1_markPiece_0 21 rfl
theorem dX1_markPiece_42 : decode cX1_markPiece 42 = .ok (.aload_n 1, 1) := dget zdX1_markPiece_0 22 rfl
theorem dX1_markPiece_43 : decode cX1_markPiece 43 = .ok (.iload 5, 2) := dget zdX1_markPiece_0 23 rfl
theorem dX1_markPiece_45 : decode cX1_markPiece 45 = .ok (.iload 6, 2) := dget zdX1_markPiece_0 24 rfl
theorem dX1_markPiece_47 : decode cX1_markPiece 47 = .ok (.invokevirtual 49, 3) := dget zdX1_markPiece_0 25 rfl
theorem dX1_markPiece_50 : decode cX1_markPiece 50 = .ok (.istore 7, 2) := dget zdX1_markPiece_0 26 rfl
theorem dX1_markPiece_52 : decode cX1_markPiece 52 = .ok (.iload 7, 2) := dget zdX1_markPiece_0 27 rfl
theorem dX1_markPiece_54 : decode cX1_markPiece 54 = .ok (.bipush (-4), 2) := dget zdX1_markPiece_0 28 rfl
theorem dX1_markPiece_56 : decode cX1_markPiece 56 = .ok (.if_icmp .eq 28, 3) := dget zdX1_markPiece_0 29 rfl
theorem dX1_markPiece_59 : decode cX1_markPiece 59 = .ok (.aload_n 1, 1) := dget zdX1_markPiece_0 30 rfl
theorem dX1_markPiece_60 : decode cX1_markPiece 60 = .ok (.iload 7, 2) := dget zdX1_markPiece_0 31 rfl
theorem dX1_markPiece_62 : decode cX1_markPiece 62 = .ok (.invokevirtual 32, 3) := dget zdX1_markPiece_0 32 rfl
theorem dX1_markPiece_65 : decode cX1_markPiece 65 = .ok (.iload_n 2, 1) := dget zdX1_markPiece_0 33 rfl
theorem dX1_markPiece_66 : decode cX1_markPiece 66 = .ok (.if_icmp .ne 18, 3) := dget zdX1_markPiece_0 34 rfl
theorem dX1_markPiece_69 : decode cX1_markPiece 69 = .ok (.aload_n 0, 1) := dget zdX1_markPiece_0 35 rfl
theorem dX1_markPiece_70 : decode cX1_markPiece 70 = .ok (.iload 7, 2) := dget zdX1_markPiece_0 36 rfl
theorem dX1_markPiece_72 : decode cX1_markPiece 72 = .ok (.invokevirtual 36, 3) := dget zdX1_markPiece_0 37 rfl
theorem dX1_markPiece_75 : decode cX1_markPiece 75 = .ok (.ifCond .ne 9, 3) := dget zdX1_markPiece_0 38 rfl
theorem dX1_markPiece_78 : decode cX1_markPiece 78 = .ok (.aload_n 0, 1) := dget zdX1_markPiece_0 39 rfl
theorem dX1_markPiece_79 : decode cX1_markPiece 79 = .ok (.iload 7, 2) := dget zdX1_markPiece_0 40 rfl
theorem dX1_markPiece_81 : decode cX1_markPiece 81 = .ok (.invokevirtual 43, 3) := dget zdX1_markPiece_0 41 rfl
theorem dX1_markPiece_84 : decode cX1_markPiece 84 = .ok (.iinc 6 1, 3) := dget zdX1_markPiece_0 42 rfl
theorem dX1_markPiece_87 : decode cX1_markPiece 87 = .ok (.goto (-51), 3) := dget zdX1_markPiece_0 43 rfl
theorem dX1_markPiece_90 : decode cX1_markPiece 90 = .ok (.iinc 4 1, 3) := dget zdX1_markPiece_0 44 rfl
theorem dX1_markPiece_93 : decode cX1_markPiece 93 = .ok (.goto (-80), 3) := dget zdX1_markPiece_0 45 rfl
theorem dX1_markPiece_96 : decode cX1_markPiece 96 = .ok (.return_, 1) := dget zdX1_markPiece_0 46 rfl
theorem zdX1_await_0 : dchk cX1_await [(0, .aload_n 0, 1), (1, .getfield 18, 3), (4, .ifCond .lt 12, 3), (7, .aload_n 0, 1), (8, .getfield 18, 3), (11, .bipush 48, 2), (13, .if_icmp .lt 4, 3), (16, .return_, 1), (17, .aload_n 0, 1), (18, .iload_n 1, 1), (19, .iconst 1, 1), (20, .invokevirtual 53, 3), (23, .aload_n 0, 1), (24, .getfield 15, 3), (27, .aload_n 0, 1), (28, .getfield 18, 3), (31, .iload_n 1, 1), (32, .iastore, 1), (33, .aload_n 0, 1), (34, .dup, 1), (35, .getfield 18, 3), (38, .iconst 1, 1), (39, .iadd, 1), (40, .putfield 18, 3), (43, .return_, 1)] = true := by decide +kernel
theorem dX1_await_0 : decode cX1_await 0 = .ok (.aload_n 0, 1) := dget zdX1_await_0 0 rfl
theorem dX1_await_1 : decode cX1_await 1 = .ok (.getfield 18, 3) := dget zdX1_await_0 1 rfl
theorem dX1_await_4 : decode cX1_await 4 = .ok (.ifCond .lt 12, 3) := dget zdX1_await_0 2 rfl
theorem dX1_await_7 : decode cX1_await 7 = .ok (.aload_n 0, 1) := dget zdX1_await_0 3 rfl
theorem dX1_await_8 : decode cX1_await 8 = .ok (.getfield 18, 3) := dget zdX1_await_0 4 rfl
theorem dX1_await_11 : decode cX1_await 11 = .ok (.bipush 48, 2) := dget zdX1_await_0 5 rfl
theorem dX1_await_13 : decode cX1_await 13 = .ok (.if_icmp .lt 4, 3) := dget zdX1_await_0 6 rfl
theorem dX1_await_16 : decode cX1_await 16 = .ok (.return_, 1) := dget zdX1_await_0 7 rfl
theorem dX1_await_17 : decode cX1_await 17 = .ok (.aload_n 0, 1) := dget zdX1_await_0 8 rfl
theorem dX1_await_18 : decode cX1_await 18 = .ok (.iload_n 1, 1) := dget zdX1_await_0 9 rfl
theorem dX1_await_19 : decode cX1_await 19 = .ok (.iconst 1, 1) := dget zdX1_await_0 10 rfl
theorem dX1_await_20 : decode cX1_await 20 = .ok (.invokevirtual 53, 3) := dget zdX1_await_0 11 rfl
theorem dX1_await_23 : decode cX1_await 23 = .ok (.aload_n 0, 1) := dget zdX1_await_0 12 rfl
theorem dX1_await_24 : decode cX1_await 24 = .ok (.getfield 15, 3) := dget zdX1_await_0 13 rfl
theorem dX1_await_27 : decode cX1_await 27 = .ok (.aload_n 0, 1) := dget zdX1_await_0 14 rfl
theorem dX1_await_28 : decode cX1_await 28 = .ok (.getfield 18, 3) := dget zdX1_await_0 15 rfl
theorem dX1_await_31 : decode cX1_await 31 = .ok (.iload_n 1, 1) := dget zdX1_await_0 16 rfl
theorem dX1_await_32 : decode cX1_await 32 = .ok (.iastore, 1) := dget zdX1_await_0 17 rfl
theorem dX1_await_33 : decode cX1_await 33 = .ok (.aload_n 0, 1) := dget zdX1_await_0 18 rfl
theorem dX1_await_34 : decode cX1_await 34 = .ok (.dup, 1) := dget zdX1_await_0 19 rfl
theorem dX1_await_35 : decode cX1_await 35 = .ok (.getfield 18, 3) := dget zdX1_await_0 20 rfl
theorem dX1_await_38 : decode cX1_await 38 = .ok (.iconst 1, 1) := dget zdX1_await_0 21 rfl
theorem dX1_await_39 : decode cX1_await 39 = .ok (.iadd, 1) := dget zdX1_await_0 22 rfl
theorem dX1_await_40 : decode cX1_await 40 = .ok (.putfield 18, 3) := dget zdX1_await_0 23 rfl
theorem dX1_await_43 : decode cX1_await 43 = .ok (.return_, 1) := dget zdX1_await_0 24 rfl
theorem zdX1_nextWaiting_0 : dchk cX1_nextWaiting [(0, .aload_n 0, 1), (1, .getfield 18, 3), (4, .iconst 1, 1), (5, .if_icmp .lt 12, 3), (8, .aload_n 0, 1), (9, .getfield 18, 3), (12, .bipush 48, 2), (14, .if_icmp .le 6, 3), (17, .bipush (-4), 2), (19, .ireturn, 1), (20, .aload_n 0, 1), (21, .dup, 1), (22, .getfield 18, 3), (25, .iconst 1, 1), (26, .isub, 1), (27, .putfield 18, 3), (30, .aload_n 0, 1), (31, .getfield 15, 3), (34, .aload_n 0, 1), (35, .getfield 18, 3), (38, .iaload, 1), (39, .ireturn, 1)] = true := by decide +kernel
theorem dX1_nextWaiting_0 : decode cX1_nextWaiting 0 = .ok (.aload_n 0, 1) := dget zdX1_nextWaiting_0 0 rfl
theorem dX1_nextWaiting_1 : decode cX1_nextWaiting 1 = .ok (.getfield 18, 3) := dget zdX1_nextWaiting_0 1 rfl
theorem dX1_nextWaiting_4 : decode cX1_nextWaiting 4 = .ok (.iconst 1, 1) := dget zdX1_nextWaiting_0 2 rfl
theorem dX1_nextWaiting_5 : decode cX1_nextWaiting 5 = .ok (.if_icmp .lt 12, 3) := dget zdX1_nextWaiting_0 3 rfl
theorem dX1_nextWaiting_8 : decode cX1_nextWaiting 8 = .ok (.aload_n 0, 1) := dget zdX1_nextWaiting_0 4 rfl
theorem dX1_nextWaiting_9 : decode cX1_nextWaiting 9 = .ok (.getfield 18, 3) := dget zdX1_nextWaiting_0 5 rfl
theorem dX1_nextWaiting_12 : decode cX1_nextWaiting 12 = .ok (.bipush 48, 2) := dget zdX1_nextWaiting_0 6 rfl
theorem dX1_nextWaiting_14 : decode cX1_nextWaiting 14 = .ok (.if_icmp .le 6, 3) := dget zdX1_nextWaiting_0 7 rfl
theorem dX1_nextWaiting_17 : decode cX1_nextWaiting 17 = .ok (.bipush (-4), 2) := dget zdX1_nextWaiting_0 8 rfl
theorem dX1_nextWaiting_19 : decode cX1_nextWaiting 19 = .ok (.ireturn, 1) := dget zdX1_nextWaiting_0 9 rfl
theorem dX1_nextWaiting_20 : decode cX1_nextWaiting 20 = .ok (.aload_n 0, 1) := dget zdX1_nextWaiting_0 10 rfl
theorem dX1_nextWaiting_21 : decode cX1_nextWaiting 21 = .ok (.dup, 1) := dget zdX1_nextWaiting_0 11 rfl
theorem dX1_nextWaiting_22 : decode cX1_nextWaiting 22 = .ok (.getfield 18, 3) := dget zdX1_nextWaiting_0 12 rfl
theorem dX1_nextWaiting_25 : decode cX1_nextWaiting 25 = .ok (.iconst 1, 1) := dget zdX1_nextWaiting_0 13 rfl
theorem dX1_nextWaiting_26 : decode cX1_nextWaiting 26 = .ok (.isub, 1) := dget zdX1_nextWaiting_0 14 rfl
theorem dX1_nextWaiting_27 : decode cX1_nextWaiting 27 = .ok (.putfield 18, 3) := dget zdX1_nextWaiting_0 15 rfl
theorem dX1_nextWaiting_30 : decode cX1_nextWaiting 30 = .ok (.aload_n 0, 1) := dget zdX1_nextWaiting_0 16 rfl
theorem dX1_nextWaiting_31 : decode cX1_nextWaiting 31 = .ok (.getfield 15, 3) := dget zdX1_nextWaiting_0 17 rfl
theorem dX1_nextWaiting_34 : decode cX1_nextWaiting 34 = .ok (.aload_n 0, 1) := dget zdX1_nextWaiting_0 18 rfl
theorem dX1_nextWaiting_35 : decode cX1_nextWaiting 35 = .ok (.getfield 18, 3) := dget zdX1_nextWaiting_0 19 rfl
theorem dX1_nextWaiting_38 : decode cX1_nextWaiting 38 = .ok (.iaload, 1) := dget zdX1_nextWaiting_0 20 rfl
theorem dX1_nextWaiting_39 : decode cX1_nextWaiting 39 = .ok (.ireturn, 1) := dget zdX1_nextWaiting_0 21 rfl
theorem zdX1_leastBetween_0 : dchk cX1_leastBetween [(0, .aload_n 0, 1), (1, .bipush 48, 2), (3, .invokevirtual 22, 3), (6, .aload_n 0, 1), (7, .iload_n 3, 1), (8, .iconst 0, 1), (9, .invokevirtual 53, 3), (12, .iconst 1, 1), (13, .istore 5, 2), (15, .iconst 0, 1), (16, .istore 6, 2), (18, .iload 6, 2), (20, .bipush 48, 2), (22, .if_icmp .ge 49, 3), (25, .iload 5, 2), (27, .ifCond .eq 44, 3), (30, .iconst 0, 1), (31, .istore 5, 2), (33, .iconst 0, 1), (34, .istore 7, 2), (36, .iload 7, 2), (38, .aload_n 1, 1), (39, .invokevirtual 26, 3), (42, .if_icmp .ge 23, 3), (45, .aload_n 0, 1), (46, .aload_n 1, 1), (47, .iload_n 2, 1), (48, .iload 7, 2), (50, .invokevirtual 57, 3), (53, .ifCond .eq 6, 3), (56, .iconst 1, 1), (57, .istore 5, 2), (59, .iinc 7 1, 3), (62, .goto (-26), 3), (65, .iinc 6 1, 3), (68, .goto (-50), 3), (71, .aload_n 0, 1), (72, .iload 4, 2), (74, .invokevirtual 36, 3), (77, .ireturn, 1)] = true := by decide +kernel
theorem dX1_leastBetween_0 : decode cX1_leastBetween 0 = .ok (.aload_n 0, 1) := dget zdX1_leastBetween_0 0 rfl
theorem dX1_leastBetween_1 : decode cX1_leastBetween 1 = .ok (.bipush 48, 2) := dget zdX1_leastBetween_0 1 rfl
theorem dX1_leastBetween_3 : decode cX1_leastBetween 3 = .ok (.invokevirtual 22, 3) := dget zdX1_leastBetween_0 2 rfl
theorem dX1_leastBetween_6 : decode cX1_leastBetween 6 = .ok (.aload_n 0, 1) := dget zdX1_leastBetween_0 3 rfl
theorem dX1_leastBetween_7 : decode cX1_leastBetween 7 = .ok (.iload_n 3, 1) := dget zdX1_leastBetween_0 4 rfl
theorem dX1_leastBetween_8 : decode cX1_leastBetween 8 = .ok (.iconst 0, 1) := dget zdX1_leastBetween_0 5 rfl
theorem dX1_leastBetween_9 : decode cX1_leastBetween 9 = .ok (.invokevirtual 53, 3) := dget zdX1_leastBetween_0 6 rfl
theorem dX1_leastBetween_12 : decode cX1_leastBetween 12 = .ok (.iconst 1, 1) := dget zdX1_leastBetween_0 7 rfl
theorem dX1_leastBetween_13 : decode cX1_leastBetween 13 = .ok (.istore 5, 2) := dget zdX1_leastBetween_0 8 rfl
theorem dX1_leastBetween_15 : decode cX1_leastBetween 15 = .ok (.iconst 0, 1) := dget zdX1_leastBetween_0 9 rfl
theorem dX1_leastBetween_16 : decode cX1_leastBetween 16 = .ok (.istore 6, 2) := dget zdX1_leastBetween_0 10 rfl
theorem dX1_leastBetween_18 : decode cX1_leastBetween 18 = .ok (.iload 6, 2) := dget zdX1_leastBetween_0 11 rfl
theorem dX1_leastBetween_20 : decode cX1_leastBetween 20 = .ok (.bipush 48, 2) := dget zdX1_leastBetween_0 12 rfl
theorem dX1_leastBetween_22 : decode cX1_leastBetween 22 = .ok (.if_icmp .ge 49, 3) := dget zdX1_leastBetween_0 13 rfl
theorem dX1_leastBetween_25 : decode cX1_leastBetween 25 = .ok (.iload 5, 2) := dget zdX1_leastBetween_0 14 rfl
theorem dX1_leastBetween_27 : decode cX1_leastBetween 27 = .ok (.ifCond .eq 44, 3) := dget zdX1_leastBetween_0 15 rfl
theorem dX1_leastBetween_30 : decode cX1_leastBetween 30 = .ok (.iconst 0, 1) := dget zdX1_leastBetween_0 16 rfl
theorem dX1_leastBetween_31 : decode cX1_leastBetween 31 = .ok (.istore 5, 2) := dget zdX1_leastBetween_0 17 rfl
theorem dX1_leastBetween_33 : decode cX1_leastBetween 33 = .ok (.iconst 0, 1) := dget zdX1_leastBetween_0 18 rfl
theorem dX1_leastBetween_34 : decode cX1_leastBetween 34 = .ok (.istore 7, 2) := dget zdX1_leastBetween_0 19 rfl
theorem dX1_leastBetween_36 : decode cX1_leastBetween 36 = .ok (.iload 7, 2) := dget zdX1_leastBetween_0 20 rfl
theorem dX1_leastBetween_38 : decode cX1_leastBetween 38 = .ok (.aload_n 1, 1) := dget zdX1_leastBetween_0 21 rfl
theorem dX1_leastBetween_39 : decode cX1_leastBetween 39 = .ok (.invokevirtual 26, 3) := dget zdX1_leastBetween_0 22 rfl
theorem dX1_leastBetween_42 : decode cX1_leastBetween 42 = .ok (.if_icmp .ge 23, 3) := dget zdX1_leastBetween_0 23 rfl
theorem dX1_leastBetween_45 : decode cX1_leastBetween 45 = .ok (.aload_n 0, 1) := dget zdX1_leastBetween_0 24 rfl
theorem dX1_leastBetween_46 : decode cX1_leastBetween 46 = .ok (.aload_n 1, 1) := dget zdX1_leastBetween_0 25 rfl
theorem dX1_leastBetween_47 : decode cX1_leastBetween 47 = .ok (.iload_n 2, 1) := dget zdX1_leastBetween_0 26 rfl
theorem dX1_leastBetween_48 : decode cX1_leastBetween 48 = .ok (.iload 7, 2) := dget zdX1_leastBetween_0 27 rfl
theorem dX1_leastBetween_50 : decode cX1_leastBetween 50 = .ok (.invokevirtual 57, 3) := dget zdX1_leastBetween_0 28 rfl
theorem dX1_leastBetween_53 : decode cX1_leastBetween 53 = .ok (.ifCond .eq 6, 3) := dget zdX1_leastBetween_0 29 rfl
theorem dX1_leastBetween_56 : decode cX1_leastBetween 56 = .ok (.iconst 1, 1) := dget zdX1_leastBetween_0 30 rfl
theorem dX1_leastBetween_57 : decode cX1_leastBetween 57 = .ok (.istore 5, 2) := dget zdX1_leastBetween_0 31 rfl
theorem dX1_leastBetween_59 : decode cX1_leastBetween 59 = .ok (.iinc 7 1, 3) := dget zdX1_leastBetween_0 32 rfl
theorem dX1_leastBetween_62 : decode cX1_leastBetween 62 = .ok (.goto (-26), 3) := dget zdX1_leastBetween_0 33 rfl
theorem dX1_leastBetween_65 : decode cX1_leastBetween 65 = .ok (.iinc 6 1, 3) := dget zdX1_leastBetween_0 34 rfl
theorem dX1_leastBetween_68 : decode cX1_leastBetween 68 = .ok (.goto (-50), 3) := dget zdX1_leastBetween_0 35 rfl
theorem dX1_leastBetween_71 : decode cX1_leastBetween 71 = .ok (.aload_n 0, 1) := dget zdX1_leastBetween_0 36 rfl
theorem dX1_leastBetween_72 : decode cX1_leastBetween 72 = .ok (.iload 4, 2) := dget zdX1_leastBetween_0 37 rfl
theorem dX1_leastBetween_74 : decode cX1_leastBetween 74 = .ok (.invokevirtual 36, 3) := dget zdX1_leastBetween_0 38 rfl
theorem dX1_leastBetween_77 : decode cX1_leastBetween 77 = .ok (.ireturn, 1) := dget zdX1_leastBetween_0 39 rfl
theorem zdX1_lowerMark_0 : dchk cX1_lowerMark [(0, .aload_n 1, 1), (1, .iload_n 3, 1), (2, .invokevirtual 32, 3), (5, .iload_n 2, 1), (6, .if_icmp .ne 7, 3), (9, .iconst 0, 1), (10, .goto 4, 3), (13, .iconst 1, 1), (14, .istore 4, 2), (16, .iconst 0, 1), (17, .istore 5, 2), (19, .iconst 0, 1), (20, .istore 6, 2), (22, .iload 6, 2), (24, .iconst 4, 1), (25, .if_icmp .ge 59, 3), (28, .aload_n 1, 1), (29, .iload_n 3, 1), (30, .iload 6, 2), (32, .invokevirtual 49, 3), (35, .istore 7, 2), (37, .iload 7, 2), (39, .bipush (-4), 2), (41, .if_icmp .eq 37, 3), (44, .aload_n 0, 1), (45, .iload 7, 2), (47, .invokevirtual 36, 3), (50, .iload 4, 2), (52, .iadd, 1), (53, .aload_n 0, 1), (54, .iload_n 3, 1), (55, .invokevirtual 36, 3), (58, .if_icmp .ge 20, 3), (61, .aload_n 0, 1), (62, .iload_n 3, 1), (63, .aload_n 0, 1), (64, .iload 7, 2), (66, .invokevirtual 36, 3), (69, .iload 4, 2), (71, .iadd, 1), (72, .invokevirtual 53, 3), (75, .iconst 1, 1), (76, .istore 5, 2), (78, .iinc 6 1, 3), (81, .goto (-59), 3), (84, .iload 5, 2), (86, .ireturn, 1)] = true := by decide +kernel
theorem dX1_lowerMark_0 : decode cX1_lowerMark 0 = .ok (.aload_n 1, 1) := dget zdX1_lowerMark_0 0 rfl
theorem dX1_lowerMark_1 : decode cX1_lowerMark 1 = .ok (.iload_n 3, 1) := dget zdX1_lowerMark_0 1 rfl
theorem dX1_lowerMark_2 : decode cX1_lowerMark 2 = .ok (.invokevirtual 32, 3) := dget zdX1_lowerMark_0 2 rfl
theorem dX1_lowerMark_5 : decode cX1_lowerMark 5 = .ok (.iload_n 2, 1) := dget zdX1_lowerMark_0 3 rfl
theorem dX1_lowerMark_6 : decode cX1_lowerMark 6 = .ok (.if_icmp .ne 7, 3) := dget zdX1_lowerMark_0 4 rfl
theorem dX1_lowerMark_9 : decode cX1_lowerMark 9 = .ok (.iconst 0, 1) := dget zdX1_lowerMark_0 5 rfl
theorem dX1_lowerMark_10 : decode cX1_lowerMark 10 = .ok (.goto 4, 3) := dget zdX1_lowerMark_0 6 rfl
theorem dX1_lowerMark_13 : decode cX1_lowerMark 13 = .ok (.iconst 1, 1) := dget zdX1_lowerMark_0 7 rfl
theorem dX1_lowerMark_14 : decode cX1_lowerMark 14 = .ok (.istore 4, 2) := dget zdX1_lowerMark_0 8 rfl
theorem dX1_lowerMark_16 : decode cX1_lowerMark 16 = .ok (.iconst 0, 1) := dget zdX1_lowerMark_0 9 rfl
theorem dX1_lowerMark_17 : decode cX1_lowerMark 17 = .ok (.istore 5, 2) := dget zdX1_lowerMark_0 10 rfl
theorem dX1_lowerMark_19 : decode cX1_lowerMark 19 = .ok (.iconst 0, 1) := dget zdX1_lowerMark_0 11 rfl
theorem dX1_lowerMark_20 : decode cX1_lowerMark 20 = .ok (.istore 6, 2) := dget zdX1_lowerMark_0 12 rfl
theorem dX1_lowerMark_22 : decode cX1_lowerMark 22 = .ok (.iload 6, 2) := dget zdX1_lowerMark_0 13 rfl
theorem dX1_lowerMark_24 : decode cX1_lowerMark 24 = .ok (.iconst 4, 1) := dget zdX1_lowerMark_0 14 rfl
theorem dX1_lowerMark_25 : decode cX1_lowerMark 25 = .ok (.if_icmp .ge 59, 3) := dget zdX1_lowerMark_0 15 rfl
theorem dX1_lowerMark_28 : decode cX1_lowerMark 28 = .ok (.aload_n 1, 1) := dget zdX1_lowerMark_0 16 rfl
theorem dX1_lowerMark_29 : decode cX1_lowerMark 29 = .ok (.iload_n 3, 1) := dget zdX1_lowerMark_0 17 rfl
theorem dX1_lowerMark_30 : decode cX1_lowerMark 30 = .ok (.iload 6, 2) := dget zdX1_lowerMark_0 18 rfl
theorem dX1_lowerMark_32 : decode cX1_lowerMark 32 = .ok (.invokevirtual 49, 3) := dget zdX1_lowerMark_0 19 rfl
theorem dX1_lowerMark_35 : decode cX1_lowerMark 35 = .ok (.istore 7, 2) := dget zdX1_lowerMark_0 20 rfl
theorem dX1_lowerMark_37 : decode cX1_lowerMark 37 = .ok (.iload 7, 2) := dget zdX1_lowerMark_0 21 rfl
theorem dX1_lowerMark_39 : decode cX1_lowerMark 39 = .ok (.bipush (-4), 2) := dget zdX1_lowerMark_0 22 rfl
theorem dX1_lowerMark_41 : decode cX1_lowerMark 41 = .ok (.if_icmp .eq 37, 3) := dget zdX1_lowerMark_0 23 rfl
theorem dX1_lowerMark_44 : decode cX1_lowerMark 44 = .ok (.aload_n 0, 1) := dget zdX1_lowerMark_0 24 rfl
theorem dX1_lowerMark_45 : decode cX1_lowerMark 45 = .ok (.iload 7, 2) := dget zdX1_lowerMark_0 25 rfl
theorem dX1_lowerMark_47 : decode cX1_lowerMark 47 = .ok (.invokevirtual 36, 3) := dget zdX1_lowerMark_0 26 rfl
theorem dX1_lowerMark_50 : decode cX1_lowerMark 50 = .ok (.iload 4, 2) := dget zdX1_lowerMark_0 27 rfl
theorem dX1_lowerMark_52 : decode cX1_lowerMark 52 = .ok (.iadd, 1) := dget zdX1_lowerMark_0 28 rfl
theorem dX1_lowerMark_53 : decode cX1_lowerMark 53 = .ok (.aload_n 0, 1) := dget zdX1_lowerMark_0 29 rfl
theorem dX1_lowerMark_54 : decode cX1_lowerMark 54 = .ok (.iload_n 3, 1) := dget zdX1_lowerMark_0 30 rfl
theorem dX1_lowerMark_55 : decode cX1_lowerMark 55 = .ok (.invokevirtual 36, 3) := dget zdX1_lowerMark_0 31 rfl
theorem dX1_lowerMark_58 : decode cX1_lowerMark 58 = .ok (.if_icmp .ge 20, 3) := dget zdX1_lowerMark_0 32 rfl
theorem dX1_lowerMark_61 : decode cX1_lowerMark 61 = .ok (.aload_n 0, 1) := dget zdX1_lowerMark_0 33 rfl
theorem dX1_lowerMark_62 : decode cX1_lowerMark 62 = .ok (.iload_n 3, 1) := dget zdX1_lowerMark_0 34 rfl
theorem dX1_lowerMark_63 : decode cX1_lowerMark 63 = .ok (.aload_n 0, 1) := dget zdX1_lowerMark_0 35 rfl
theorem dX1_lowerMark_64 : decode cX1_lowerMark 64 = .ok (.iload 7, 2) := dget zdX1_lowerMark_0 36 rfl
theorem dX1_lowerMark_66 : decode cX1_lowerMark 66 = .ok (.invokevirtual 36, 3) := dget zdX1_lowerMark_0 37 rfl
theorem dX1_lowerMark_69 : decode cX1_lowerMark 69 = .ok (.iload 4, 2) := dget zdX1_lowerMark_0 38 rfl
theorem dX1_lowerMark_71 : decode cX1_lowerMark 71 = .ok (.iadd, 1) := dget zdX1_lowerMark_0 39 rfl
theorem dX1_lowerMark_72 : decode cX1_lowerMark 72 = .ok (.invokevirtual 53, 3) := dget zdX1_lowerMark_0 40 rfl
theorem dX1_lowerMark_75 : decode cX1_lowerMark 75 = .ok (.iconst 1, 1) := dget zdX1_lowerMark_0 41 rfl
theorem dX1_lowerMark_76 : decode cX1_lowerMark 76 = .ok (.istore 5, 2) := dget zdX1_lowerMark_0 42 rfl
theorem dX1_lowerMark_78 : decode cX1_lowerMark 78 = .ok (.iinc 6 1, 3) := dget zdX1_lowerMark_0 43 rfl
theorem dX1_lowerMark_81 : decode cX1_lowerMark 81 = .ok (.goto (-59), 3) := dget zdX1_lowerMark_0 44 rfl
theorem dX1_lowerMark_84 : decode cX1_lowerMark 84 = .ok (.iload 5, 2) := dget zdX1_lowerMark_0 45 rfl
theorem dX1_lowerMark_86 : decode cX1_lowerMark 86 = .ok (.ireturn, 1) := dget zdX1_lowerMark_0 46 rfl
theorem zdX1_fillMarks_0 : dchk cX1_fillMarks [(0, .iconst 0, 1), (1, .istore_n 2, 1), (2, .iload_n 2, 1), (3, .bipush 48, 2), (5, .if_icmp .ge 16, 3), (8, .aload_n 0, 1), (9, .getfield 9, 3), (12, .iload_n 2, 1), (13, .iload_n 1, 1), (14, .iastore, 1), (15, .iinc 2 1, 3), (18, .goto (-16), 3), (21, .return_, 1)] = true := by decide +kernel
theorem dX1_fillMarks_0 : decode cX1_fillMarks 0 = .ok (.iconst 0, 1) := dget zdX1_fillMarks_0 0 rfl
theorem dX1_fillMarks_1 : decode cX1_fillMarks 1 = .ok (.istore_n 2, 1) := dget zdX1_fillMarks_0 1 rfl
theorem dX1_fillMarks_2 : decode cX1_fillMarks 2 = .ok (.iload_n 2, 1) := dget zdX1_fillMarks_0 2 rfl
theorem dX1_fillMarks_3 : decode cX1_fillMarks 3 = .ok (.bipush 48, 2) := dget zdX1_fillMarks_0 3 rfl
theorem dX1_fillMarks_5 : decode cX1_fillMarks 5 = .ok (.if_icmp .ge 16, 3) := dget zdX1_fillMarks_0 4 rfl
theorem dX1_fillMarks_8 : decode cX1_fillMarks 8 = .ok (.aload_n 0, 1) := dget zdX1_fillMarks_0 5 rfl
theorem dX1_fillMarks_9 : decode cX1_fillMarks 9 = .ok (.getfield 9, 3) := dget zdX1_fillMarks_0 6 rfl
theorem dX1_fillMarks_12 : decode cX1_fillMarks 12 = .ok (.iload_n 2, 1) := dget zdX1_fillMarks_0 7 rfl
theorem dX1_fillMarks_13 : decode cX1_fillMarks 13 = .ok (.iload_n 1, 1) := dget zdX1_fillMarks_0 8 rfl
theorem dX1_fillMarks_14 : decode cX1_fillMarks 14 = .ok (.iastore, 1) := dget zdX1_fillMarks_0 9 rfl
theorem dX1_fillMarks_15 : decode cX1_fillMarks 15 = .ok (.iinc 2 1, 3) := dget zdX1_fillMarks_0 10 rfl
theorem dX1_fillMarks_18 : decode cX1_fillMarks 18 = .ok (.goto (-16), 3) := dget zdX1_fillMarks_0 11 rfl
theorem dX1_fillMarks_21 : decode cX1_fillMarks 21 = .ok (.return_, 1) := dget zdX1_fillMarks_0 12 rfl
theorem zdX1_markOf_0 : dchk cX1_markOf [(0, .iload_n 1, 1), (1, .ifCond .lt 18, 3), (4, .iload_n 1, 1), (5, .bipush 48, 2), (7, .if_icmp .ge 12, 3), (10, .aload_n 0, 1), (11, .getfield 9, 3), (14, .iload_n 1, 1), (15, .iaload, 1), (16, .goto 5, 3), (19, .bipush 48, 2), (21, .ireturn, 1)] = true := by decide +kernel
theorem dX1_markOf_0 : decode cX1_markOf 0 = .ok (.iload_n 1, 1) := dget zdX1_markOf_0 0 rfl
theorem dX1_markOf_1 : decode cX1_markOf 1 = .ok (.ifCond .lt 18, 3) := dget zdX1_markOf_0 1 rfl
theorem dX1_markOf_4 : decode cX1_markOf 4 = .ok (.iload_n 1, 1) := dget zdX1_markOf_0 2 rfl
theorem dX1_markOf_5 : decode cX1_markOf 5 = .ok (.bipush 48, 2) := dget zdX1_markOf_0 3 rfl
theorem dX1_markOf_7 : decode cX1_markOf 7 = .ok (.if_icmp .ge 12, 3) := dget zdX1_markOf_0 4 rfl
theorem dX1_markOf_10 : decode cX1_markOf 10 = .ok (.aload_n 0, 1) := dget zdX1_markOf_0 5 rfl
theorem dX1_markOf_11 : decode cX1_markOf 11 = .ok (.getfield 9, 3) := dget zdX1_markOf_0 6 rfl
theorem dX1_markOf_14 : decode cX1_markOf 14 = .ok (.iload_n 1, 1) := dget zdX1_markOf_0 7 rfl
theorem dX1_markOf_15 : decode cX1_markOf 15 = .ok (.iaload, 1) := dget zdX1_markOf_0 8 rfl
theorem dX1_markOf_16 : decode cX1_markOf 16 = .ok (.goto 5, 3) := dget zdX1_markOf_0 9 rfl
theorem dX1_markOf_19 : decode cX1_markOf 19 = .ok (.bipush 48, 2) := dget zdX1_markOf_0 10 rfl
theorem dX1_markOf_21 : decode cX1_markOf 21 = .ok (.ireturn, 1) := dget zdX1_markOf_0 11 rfl
theorem zdX1_putMark_0 : dchk cX1_putMark [(0, .iload_n 1, 1), (1, .ifCond .lt 16, 3), (4, .iload_n 1, 1), (5, .bipush 48, 2), (7, .if_icmp .ge 10, 3), (10, .aload_n 0, 1), (11, .getfield 9, 3), (14, .iload_n 1, 1), (15, .iload_n 2, 1), (16, .iastore, 1), (17, .return_, 1)] = true := by decide +kernel
theorem dX1_putMark_0 : decode cX1_putMark 0 = .ok (.iload_n 1, 1) := dget zdX1_putMark_0 0 rfl
theorem dX1_putMark_1 : decode cX1_putMark 1 = .ok (.ifCond .lt 16, 3) := dget zdX1_putMark_0 1 rfl
theorem dX1_putMark_4 : decode cX1_putMark 4 = .ok (.iload_n 1, 1) := dget zdX1_putMark_0 2 rfl
theorem dX1_putMark_5 : decode cX1_putMark 5 = .ok (.bipush 48, 2) := dget zdX1_putMark_0 3 rfl
theorem dX1_putMark_7 : decode cX1_putMark 7 = .ok (.if_icmp .ge 10, 3) := dget zdX1_putMark_0 4 rfl
theorem dX1_putMark_10 : decode cX1_putMark 10 = .ok (.aload_n 0, 1) := dget zdX1_putMark_0 5 rfl
theorem dX1_putMark_11 : decode cX1_putMark 11 = .ok (.getfield 9, 3) := dget zdX1_putMark_0 6 rfl
theorem dX1_putMark_14 : decode cX1_putMark 14 = .ok (.iload_n 1, 1) := dget zdX1_putMark_0 7 rfl
theorem dX1_putMark_15 : decode cX1_putMark 15 = .ok (.iload_n 2, 1) := dget zdX1_putMark_0 8 rfl
theorem dX1_putMark_16 : decode cX1_putMark 16 = .ok (.iastore, 1) := dget zdX1_putMark_0 9 rfl
theorem dX1_putMark_17 : decode cX1_putMark 17 = .ok (.return_, 1) := dget zdX1_putMark_0 10 rfl
theorem zdX2_init_0 : dchk cX2_init [(0, .aload_n 0, 1), (1, .invokespecial 3, 3), (4, .aload_n 0, 1), (5, .bipush 21, 2), (7, .newarray .int, 2), (9, .putfield 9, 3), (12, .aload_n 0, 1), (13, .bipush 21, 2), (15, .newarray .int, 2), (17, .putfield 15, 3), (20, .aload_n 0, 1), (21, .iconst 0, 1), (22, .putfield 18, 3), (25, .aload_n 0, 1), (26, .iconst 1, 1), (27, .putfield 22, 3), (30, .return_, 1)] = true := by decide +kernel
theorem dX2_init_0 : decode cX2_init 0 = .ok (.aload_n 0, 1) := dget zdX2_init_0 0 rfl
theorem dX2_init_1 : decode cX2_init 1 = .ok (.invokespecial 3, 3) := dget zdX2_init_0 1 rfl
theorem dX2_init_4 : decode cX2_init 4 = .ok (.aload_n 0, 1) := dget zdX2_init_0 2 rfl
theorem dX2_init_5 : decode cX2_init 5 = .ok (.bipush 21, 2) := dget zdX2_init_0 3 rfl
theorem dX2_init_7 : decode cX2_init 7 = .ok (.newarray .int, 2) := dget zdX2_init_0 4 rfl
theorem dX2_init_9 : decode cX2_init 9 = .ok (.putfield 9, 3) := dget zdX2_init_0 5 rfl
theorem dX2_init_12 : decode cX2_init 12 = .ok (.aload_n 0, 1) := dget zdX2_init_0 6 rfl
theorem dX2_init_13 : decode cX2_init 13 = .ok (.bipush 21, 2) := dget zdX2_init_0 7 rfl
theorem dX2_init_15 : decode cX2_init 15 = .ok (.newarray .int, 2) := dget zdX2_init_0 8 rfl
theorem dX2_init_17 : decode cX2_init 17 = .ok (.putfield 15, 3) := dget zdX2_init_0 9 rfl
theorem dX2_init_20 : decode cX2_init 20 = .ok (.aload_n 0, 1) := dget zdX2_init_0 10 rfl
theorem dX2_init_21 : decode cX2_init 21 = .ok (.iconst 0, 1) := dget zdX2_init_0 11 rfl
theorem dX2_init_22 : decode cX2_init 22 = .ok (.putfield 18, 3) := dget zdX2_init_0 12 rfl
theorem dX2_init_25 : decode cX2_init 25 = .ok (.aload_n 0, 1) := dget zdX2_init_0 13 rfl
theorem dX2_init_26 : decode cX2_init 26 = .ok (.iconst 1, 1) := dget zdX2_init_0 14 rfl
theorem dX2_init_27 : decode cX2_init 27 = .ok (.putfield 22, 3) := dget zdX2_init_0 15 rfl
theorem dX2_init_30 : decode cX2_init 30 = .ok (.return_, 1) := dget zdX2_init_0 16 rfl
theorem zdX2_find_0 : dchk cX2_find [(0, .aload_n 0, 1), (1, .iload_n 3, 1), (2, .invokevirtual 25, 3), (5, .iconst 1, 1), (6, .istore 6, 2), (8, .iconst 0, 1), (9, .istore 7, 2), (11, .iload 7, 2), (13, .aload_n 1, 1), (14, .getfield 29, 3), (17, .if_icmp .ge 71, 3), (20, .iload 7, 2), (22, .bipush 8, 2), (24, .if_icmp .ge 64, 3), (27, .iload 7, 2), (29, .aload_n 1, 1), (30, .getfield 34, 3), (33, .imul, 1), (34, .iload_n 2, 1), (35, .iadd, 1), (36, .istore 8, 2), (38, .aload_n 0, 1), (39, .aload_n 1, 1), (40, .iload 8, 2), (42, .invokevirtual 37, 3), (45, .iload 5, 2), (47, .invokevirtual 41, 3), (50, .iload 6, 2), (52, .bipush 10, 2), (54, .imul, 1), (55, .istore 6, 2), (57, .iload 8, 2), (59, .iload 4, 2), (61, .if_icmp .ne 15, 3), (64, .aload_n 0, 1), (65, .aload_n 0, 1), (66, .iconst 0, 1), (67, .invokevirtual 45, 3), (70, .iload 6, 2), (72, .invokevirtual 48, 3), (75, .return_, 1), (76, .aload_n 0, 1), (77, .iconst 0, 1), (78, .iconst 0, 1), (79, .invokevirtual 51, 3), (82, .iinc 7 1, 3), (85, .goto (-74), 3), (88, .aload_n 0, 1), (89, .iload 4, 2), (91, .bipush 99, 2), (93, .if_icmp .ne 10, 3), (96, .aload_n 0, 1), (97, .invokevirtual 54, 3), (100, .goto 4, 3), (103, .iconst 0, 1), (104, .iload 6, 2), (106, .invokevirtual 48, 3), (109, .return_, 1)] = true := by decide +kernel
theorem dX2_find_0 : decode cX2_find 0 = .ok (.aload_n 0, 1) := dget zdX2_find_0 0 rfl
theorem dX2_find_1 : decode cX2_find 1 = .ok (.iload_n 3, 1) := dget zdX2_find_0 1 rfl
theorem dX2_find_2 : decode cX2_find 2 = .ok (.invokevirtual 25, 3) := dget zdX2_find_0 2 rfl
theorem dX2_find_5 : decode cX2_find 5 = .ok (.iconst 1, 1) := dget zdX2_find_0 3 rfl
theorem dX2_find_6 : decode cX2_find 6 = .ok (.istore 6, 2) := dget zdX2_find_0 4 rfl
theorem dX2_find_8 : decode cX2_find 8 = .ok (.iconst 0, 1) := dget zdX2_find_0 5 rfl
theorem dX2_find_9 : decode cX2_find 9 = .ok (.istore 7, 2) := dget zdX2_find_0 6 rfl
theorem dX2_find_11 : decode cX2_find 11 = .ok (.iload 7, 2) := dget zdX2_find_0 7 rfl
theorem dX2_find_13 : decode cX2_find 13 = .ok (.aload_n 1, 1) := dget zdX2_find_0 8 rfl
theorem dX2_find_14 : decode cX2_find 14 = .ok (.getfield 29, 3) := dget zdX2_find_0 9 rfl
theorem dX2_find_17 : decode cX2_find 17 = .ok (.if_icmp .ge 71, 3) := dget zdX2_find_0 10 rfl
theorem dX2_find_20 : decode cX2_find 20 = .ok (.iload 7, 2) := dget zdX2_find_0 11 rfl
theorem dX2_find_22 : decode cX2_find 22 = .ok (.bipush 8, 2) := dget zdX2_find_0 12 rfl
theorem dX2_find_24 : decode cX2_find 24 = .ok (.if_icmp .ge 64, 3) := dget zdX2_find_0 13 rfl
theorem dX2_find_27 : decode cX2_find 27 = .ok (.iload 7, 2) := dget zdX2_find_0 14 rfl
theorem dX2_find_29 : decode cX2_find 29 = .ok (.aload_n 1, 1) := dget zdX2_find_0 15 rfl
theorem dX2_find_30 : decode cX2_find 30 = .ok (.getfield 34, 3) := dget zdX2_find_0 16 rfl
theorem dX2_find_33 : decode cX2_find 33 = .ok (.imul, 1) := dget zdX2_find_0 17 rfl
theorem dX2_find_34 : decode cX2_find 34 = .ok (.iload_n 2, 1) := dget zdX2_find_0 18 rfl
theorem dX2_find_35 : decode cX2_find 35 = .ok (.iadd, 1) := dget zdX2_find_0 19 rfl
theorem dX2_find_36 : decode cX2_find 36 = .ok (.istore 8, 2) := dget zdX2_find_0 20 rfl
theorem dX2_find_38 : decode cX2_find 38 = .ok (.aload_n 0, 1) := dget zdX2_find_0 21 rfl
theorem dX2_find_39 : decode cX2_find 39 = .ok (.aload_n 1, 1) := dget zdX2_find_0 22 rfl
theorem dX2_find_40 : decode cX2_find 40 = .ok (.iload 8, 2) := dget zdX2_find_0 23 rfl
theorem dX2_find_42 : decode cX2_find 42 = .ok (.invokevirtual 37, 3) := dget zdX2_find_0 24 rfl
theorem dX2_find_45 : decode cX2_find 45 = .ok (.iload 5, 2) := dget zdX2_find_0 25 rfl
theorem dX2_find_47 : decode cX2_find 47 = .ok (.invokevirtual 41, 3) := dget zdX2_find_0 26 rfl
theorem dX2_find_50 : decode cX2_find 50 = .ok (.iload 6, 2) := dget zdX2_find_0 27 rfl
theorem dX2_find_52 : decode cX2_find 52 = .ok (.bipush 10, 2) := dget zdX2_find_0 28 rfl
theorem dX2_find_54 : decode cX2_find 54 = .ok (.imul, 1) := dget zdX2_find_0 29 rfl
theorem dX2_find_55 : decode cX2_find 55 = .ok (.istore 6, 2) := dget zdX2_find_0 30 rfl
theorem dX2_find_57 : decode cX2_find 57 = .ok (.iload 8, 2) := dget zdX2_find_0 31 rfl
theorem dX2_find_59 : decode cX2_find 59 = .ok (.iload 4, 2) := dget zdX2_find_0 32 rfl
theorem dX2_find_61 : decode cX2_find 61 = .ok (.if_icmp .ne 15, 3) := dget zdX2_find_0 33 rfl
theorem dX2_find_64 : decode cX2_find 64 = .ok (.aload_n 0, 1) := dget zdX2_find_0 34 rfl
theorem dX2_find_65 : decode cX2_find 65 = .ok (.aload_n 0, 1) := dget zdX2_find_0 35 rfl
theorem dX2_find_66 : decode cX2_find 66 = .ok (.iconst 0, 1) := dget zdX2_find_0 36 rfl
theorem dX2_find_67 : decode cX2_find 67 = .ok (.invokevirtual 45, 3) := dget zdX2_find_0 37 rfl
theorem dX2_find_70 : decode cX2_find 70 = .ok (.iload 6, 2) := dget zdX2_find_0 38 rfl
theorem dX2_find_72 : decode cX2_find 72 = .ok (.invokevirtual 48, 3) := dget zdX2_find_0 39 rfl
theorem dX2_find_75 : decode cX2_find 75 = .ok (.return_, 1) := dget zdX2_find_0 40 rfl
theorem dX2_find_76 : decode cX2_find 76 = .ok (.aload_n 0, 1) := dget zdX2_find_0 41 rfl
theorem dX2_find_77 : decode cX2_find 77 = .ok (.iconst 0, 1) := dget zdX2_find_0 42 rfl
theorem dX2_find_78 : decode cX2_find 78 = .ok (.iconst 0, 1) := dget zdX2_find_0 43 rfl
theorem dX2_find_79 : decode cX2_find 79 = .ok (.invokevirtual 51, 3) := dget zdX2_find_0 44 rfl
theorem dX2_find_82 : decode cX2_find 82 = .ok (.iinc 7 1, 3) := dget zdX2_find_0 45 rfl
theorem dX2_find_85 : decode cX2_find 85 = .ok (.goto (-74), 3) := dget zdX2_find_0 46 rfl
theorem dX2_find_88 : decode cX2_find 88 = .ok (.aload_n 0, 1) := dget zdX2_find_0 47 rfl
theorem dX2_find_89 : decode cX2_find 89 = .ok (.iload 4, 2) := dget zdX2_find_0 48 rfl
theorem dX2_find_91 : decode cX2_find 91 = .ok (.bipush 99, 2) := dget zdX2_find_0 49 rfl
theorem dX2_find_93 : decode cX2_find 93 = .ok (.if_icmp .ne 10, 3) := dget zdX2_find_0 50 rfl
theorem dX2_find_96 : decode cX2_find 96 = .ok (.aload_n 0, 1) := dget zdX2_find_0 51 rfl
theorem dX2_find_97 : decode cX2_find 97 = .ok (.invokevirtual 54, 3) := dget zdX2_find_0 52 rfl
theorem dX2_find_100 : decode cX2_find 100 = .ok (.goto 4, 3) := dget zdX2_find_0 53 rfl
theorem dX2_find_103 : decode cX2_find 103 = .ok (.iconst 0, 1) := dget zdX2_find_0 54 rfl
theorem dX2_find_104 : decode cX2_find 104 = .ok (.iload 6, 2) := dget zdX2_find_0 55 rfl
theorem dX2_find_106 : decode cX2_find 106 = .ok (.invokevirtual 48, 3) := dget zdX2_find_0 56 rfl
theorem dX2_find_109 : decode cX2_find 109 = .ok (.return_, 1) := dget zdX2_find_0 57 rfl
theorem zdX2_start_0 : dchk cX2_start [(0, .iconst 0, 1), (1, .istore_n 2, 1), (2, .iload_n 2, 1), (3, .bipush 20, 2), (5, .if_icmp .gt 25, 3), (8, .aload_n 0, 1), (9, .getfield 9, 3), (12, .iload_n 2, 1), (13, .iload_n 2, 1), (14, .iload_n 1, 1), (15, .if_icmp .ne 7, 3), (18, .iconst 1, 1), (19, .goto 4, 3), (22, .iconst 0, 1), (23, .iastore, 1), (24, .iinc 2 1, 3), (27, .goto (-25), 3), (30, .return_, 1)] = true := by decide +kernel
theorem dX2_start_0 : decode cX2_start 0 = .ok (.iconst 0, 1) := dget zdX2_start_0 0 rfl
theorem dX2_start_1 : decode cX2_start 1 = .ok (.istore_n 2, 1) := dget zdX2_start_0 1 rfl
theorem dX2_start_2 : decode cX2_start 2 = .ok (.iload_n 2, 1) := dget zdX2_start_0 2 rfl
theorem dX2_start_3 : decode cX2_start 3 = .ok (.bipush 20, 2) := dget zdX2_start_0 3 rfl
theorem dX2_start_5 : decode cX2_start 5 = .ok (.if_icmp .gt 25, 3) := dget zdX2_start_0 4 rfl
theorem dX2_start_8 : decode cX2_start 8 = .ok (.aload_n 0, 1) := dget zdX2_start_0 5 rfl
theorem dX2_start_9 : decode cX2_start 9 = .ok (.getfield 9, 3) := dget zdX2_start_0 6 rfl
theorem dX2_start_12 : decode cX2_start 12 = .ok (.iload_n 2, 1) := dget zdX2_start_0 7 rfl
theorem dX2_start_13 : decode cX2_start 13 = .ok (.iload_n 2, 1) := dget zdX2_start_0 8 rfl
theorem dX2_start_14 : decode cX2_start 14 = .ok (.iload_n 1, 1) := dget zdX2_start_0 9 rfl
theorem dX2_start_15 : decode cX2_start 15 = .ok (.if_icmp .ne 7, 3) := dget zdX2_start_0 10 rfl
theorem dX2_start_18 : decode cX2_start 18 = .ok (.iconst 1, 1) := dget zdX2_start_0 11 rfl
theorem dX2_start_19 : decode cX2_start 19 = .ok (.goto 4, 3) := dget zdX2_start_0 12 rfl
theorem dX2_start_22 : decode cX2_start 22 = .ok (.iconst 0, 1) := dget zdX2_start_0 13 rfl
theorem dX2_start_23 : decode cX2_start 23 = .ok (.iastore, 1) := dget zdX2_start_0 14 rfl
theorem dX2_start_24 : decode cX2_start 24 = .ok (.iinc 2 1, 3) := dget zdX2_start_0 15 rfl
theorem dX2_start_27 : decode cX2_start 27 = .ok (.goto (-25), 3) := dget zdX2_start_0 16 rfl
theorem dX2_start_30 : decode cX2_start 30 = .ok (.return_, 1) := dget zdX2_start_0 17 rfl
theorem zdX2_passRow_0 : dchk cX2_passRow [(0, .iconst 0, 1), (1, .istore_n 3, 1), (2, .iload_n 3, 1), (3, .bipush 20, 2), (5, .if_icmp .gt 16, 3), (8, .aload_n 0, 1), (9, .getfield 15, 3), (12, .iload_n 3, 1), (13, .iconst 0, 1), (14, .iastore, 1), (15, .iinc 3 1, 3), (18, .goto (-16), 3), (21, .iconst 1, 1), (22, .istore_n 3, 1), (23, .iload_n 3, 1), (24, .bipush 20, 2), (26, .if_icmp .gt 46, 3), (29, .aload_n 0, 1), (30, .iconst 1, 1), (31, .iload_n 3, 1), (32, .invokestatic 58, 3), (35, .iload_n 2, 1), (36, .aload_n 0, 1), (37, .getfield 9, 3), (40, .iload_n 3, 1), (41, .iaload, 1), (42, .imul, 1), (43, .invokevirtual 64, 3), (46, .aload_n 0, 1), (47, .iload_n 1, 1), (48, .iload_n 3, 1), (49, .invokestatic 58, 3), (52, .bipush 10, 2), (54, .iload_n 2, 1), (55, .isub, 1), (56, .aload_n 0, 1), (57, .getfield 9, 3), (60, .iload_n 3, 1), (61, .iaload, 1), (62, .imul, 1), (63, .invokevirtual 64, 3), (66, .iinc 3 1, 3), (69, .goto (-46), 3), (72, .iconst 0, 1), (73, .istore_n 3, 1), (74, .iload_n 3, 1), (75, .bipush 20, 2), (77, .if_icmp .gt 21, 3), (80, .aload_n 0, 1), (81, .getfield 9, 3), (84, .iload_n 3, 1), (85, .aload_n 0, 1), (86, .getfield 15, 3), (89, .iload_n 3, 1), (90, .iaload, 1), (91, .iastore, 1), (92, .iinc 3 1, 3), (95, .goto (-21), 3), (98, .return_, 1)] = true := by decide +kernel
theorem dX2_passRow_0 : decode cX2_passRow 0 = .ok (.iconst 0, 1) := dget zdX2_passRow_0 0 rfl
theorem dX2_passRow_1 : decode cX2_passRow 1 = .ok (.istore_n 3, 1) := dget zdX2_passRow_0 1 rfl
theorem dX2_passRow_2 : decode cX2_passRow 2 = .ok (.iload_n 3, 1) := dget zdX2_passRow_0 2 rfl
theorem dX2_passRow_3 : decode cX2_passRow 3 = .ok (.bipush 20, 2) := dget zdX2_passRow_0 3 rfl
theorem dX2_passRow_5 : decode cX2_passRow 5 = .ok (.if_icmp .gt 16, 3) := dget zdX2_passRow_0 4 rfl
theorem dX2_passRow_8 : decode cX2_passRow 8 = .ok (.aload_n 0, 1) := dget zdX2_passRow_0 5 rfl
theorem dX2_passRow_9 : decode cX2_passRow 9 = .ok (.getfield 15, 3) := dget zdX2_passRow_0 6 rfl
theorem dX2_passRow_12 : decode cX2_passRow 12 = .ok (.iload_n 3, 1) := dget zdX2_passRow_0 7 rfl
theorem dX2_passRow_13 : decode cX2_passRow 13 = .ok (.iconst 0, 1) := dget zdX2_passRow_0 8 rfl
theorem dX2_passRow_14 : decode cX2_passRow 14 = .ok (.iastore, 1) := dget zdX2_passRow_0 9 rfl
theorem dX2_passRow_15 : decode cX2_passRow 15 = .ok (.iinc 3 1, 3) := dget zdX2_passRow_0 10 rfl
theorem dX2_passRow_18 : decode cX2_passRow 18 = .ok (.goto (-16), 3) := dget zdX2_passRow_0 11 rfl
theorem dX2_passRow_21 : decode cX2_passRow 21 = .ok (.iconst 1, 1) := dget zdX2_passRow_0 12 rfl
theorem dX2_passRow_22 : decode cX2_passRow 22 = .ok (.istore_n 3, 1) := dget zdX2_passRow_0 13 rfl
theorem dX2_passRow_23 : decode cX2_passRow 23 = .ok (.iload_n 3, 1) := dget zdX2_passRow_0 14 rfl
theorem dX2_passRow_24 : decode cX2_passRow 24 = .ok (.bipush 20, 2) := dget zdX2_passRow_0 15 rfl
theorem dX2_passRow_26 : decode cX2_passRow 26 = .ok (.if_icmp .gt 46, 3) := dget zdX2_passRow_0 16 rfl
theorem dX2_passRow_29 : decode cX2_passRow 29 = .ok (.aload_n 0, 1) := dget zdX2_passRow_0 17 rfl
theorem dX2_passRow_30 : decode cX2_passRow 30 = .ok (.iconst 1, 1) := dget zdX2_passRow_0 18 rfl
theorem dX2_passRow_31 : decode cX2_passRow 31 = .ok (.iload_n 3, 1) := dget zdX2_passRow_0 19 rfl
theorem dX2_passRow_32 : decode cX2_passRow 32 = .ok (.invokestatic 58, 3) := dget zdX2_passRow_0 20 rfl
theorem dX2_passRow_35 : decode cX2_passRow 35 = .ok (.iload_n 2, 1) := dget zdX2_passRow_0 21 rfl
theorem dX2_passRow_36 : decode cX2_passRow 36 = .ok (.aload_n 0, 1) := dget zdX2_passRow_0 22 rfl
theorem dX2_passRow_37 : decode cX2_passRow 37 = .ok (.getfield 9, 3) := dget zdX2_passRow_0 23 rfl
theorem dX2_passRow_40 : decode cX2_passRow 40 = .ok (.iload_n 3, 1) := dget zdX2_passRow_0 24 rfl
theorem dX2_passRow_41 : decode cX2_passRow 41 = .ok (.iaload, 1) := dget zdX2_passRow_0 25 rfl
theorem dX2_passRow_42 : decode cX2_passRow 42 = .ok (.imul, 1) := dget zdX2_passRow_0 26 rfl
theorem dX2_passRow_43 : decode cX2_passRow 43 = .ok (.invokevirtual 64, 3) := dget zdX2_passRow_0 27 rfl
theorem dX2_passRow_46 : decode cX2_passRow 46 = .ok (.aload_n 0, 1) := dget zdX2_passRow_0 28 rfl
theorem dX2_passRow_47 : decode cX2_passRow 47 = .ok (.iload_n 1, 1) := dget zdX2_passRow_0 29 rfl
theorem dX2_passRow_48 : decode cX2_passRow 48 = .ok (.iload_n 3, 1) := dget zdX2_passRow_0 30 rfl
theorem dX2_passRow_49 : decode cX2_passRow 49 = .ok (.invokestatic 58, 3) := dget zdX2_passRow_0 31 rfl
theorem dX2_passRow_52 : decode cX2_passRow 52 = .ok (.bipush 10, 2) := dget zdX2_passRow_0 32 rfl
theorem dX2_passRow_54 : decode cX2_passRow 54 = .ok (.iload_n 2, 1) := dget zdX2_passRow_0 33 rfl
theorem dX2_passRow_55 : decode cX2_passRow 55 = .ok (.isub, 1) := dget zdX2_passRow_0 34 rfl
theorem dX2_passRow_56 : decode cX2_passRow 56 = .ok (.aload_n 0, 1) := dget zdX2_passRow_0 35 rfl
theorem dX2_passRow_57 : decode cX2_passRow 57 = .ok (.getfield 9, 3) := dget zdX2_passRow_0 36 rfl
theorem dX2_passRow_60 : decode cX2_passRow 60 = .ok (.iload_n 3, 1) := dget zdX2_passRow_0 37 rfl
theorem dX2_passRow_61 : decode cX2_passRow 61 = .ok (.iaload, 1) := dget zdX2_passRow_0 38 rfl
theorem dX2_passRow_62 : decode cX2_passRow 62 = .ok (.imul, 1) := dget zdX2_passRow_0 39 rfl
theorem dX2_passRow_63 : decode cX2_passRow 63 = .ok (.invokevirtual 64, 3) := dget zdX2_passRow_0 40 rfl
theorem dX2_passRow_66 : decode cX2_passRow 66 = .ok (.iinc 3 1, 3) := dget zdX2_passRow_0 41 rfl
theorem dX2_passRow_69 : decode cX2_passRow 69 = .ok (.goto (-46), 3) := dget zdX2_passRow_0 42 rfl
theorem dX2_passRow_72 : decode cX2_passRow 72 = .ok (.iconst 0, 1) := dget zdX2_passRow_0 43 rfl
theorem dX2_passRow_73 : decode cX2_passRow 73 = .ok (.istore_n 3, 1) := dget zdX2_passRow_0 44 rfl
theorem dX2_passRow_74 : decode cX2_passRow 74 = .ok (.iload_n 3, 1) := dget zdX2_passRow_0 45 rfl
theorem dX2_passRow_75 : decode cX2_passRow 75 = .ok (.bipush 20, 2) := dget zdX2_passRow_0 46 rfl
theorem dX2_passRow_77 : decode cX2_passRow 77 = .ok (.if_icmp .gt 21, 3) := dget zdX2_passRow_0 47 rfl
theorem dX2_passRow_80 : decode cX2_passRow 80 = .ok (.aload_n 0, 1) := dget zdX2_passRow_0 48 rfl
theorem dX2_passRow_81 : decode cX2_passRow 81 = .ok (.getfield 9, 3) := dget zdX2_passRow_0 49 rfl
theorem dX2_passRow_84 : decode cX2_passRow 84 = .ok (.iload_n 3, 1) := dget zdX2_passRow_0 50 rfl
theorem dX2_passRow_85 : decode cX2_passRow 85 = .ok (.aload_n 0, 1) := dget zdX2_passRow_0 51 rfl
theorem dX2_passRow_86 : decode cX2_passRow 86 = .ok (.getfield 15, 3) := dget zdX2_passRow_0 52 rfl
theorem dX2_passRow_89 : decode cX2_passRow 89 = .ok (.iload_n 3, 1) := dget zdX2_passRow_0 53 rfl
theorem dX2_passRow_90 : decode cX2_passRow 90 = .ok (.iaload, 1) := dget zdX2_passRow_0 54 rfl
theorem dX2_passRow_91 : decode cX2_passRow 91 = .ok (.iastore, 1) := dget zdX2_passRow_0 55 rfl
theorem dX2_passRow_92 : decode cX2_passRow 92 = .ok (.iinc 3 1, 3) := dget zdX2_passRow_0 56 rfl
theorem dX2_passRow_95 : decode cX2_passRow 95 = .ok (.goto (-21), 3) := dget zdX2_passRow_0 57 rfl
theorem dX2_passRow_98 : decode cX2_passRow 98 = .ok (.return_, 1) := dget zdX2_passRow_0 58 rfl
theorem zdX2_addNext_0 : dchk cX2_addNext [(0, .iload_n 1, 1), (1, .ifCond .lt 19, 3), (4, .iload_n 1, 1), (5, .bipush 20, 2), (7, .if_icmp .gt 13, 3), (10, .aload_n 0, 1), (11, .getfield 15, 3), (14, .iload_n 1, 1), (15, .dup2, 1), (16, .iaload, 1), (17, .iload_n 2, 1), (18, .iadd, 1), (19, .iastore, 1), (20, .return_, 1)] = true := by decide +kernel
theorem dX2_addNext_0 : decode cX2_addNext 0 = .ok (.iload_n 1, 1) := dget zdX2_addNext_0 0 rfl
theorem dX2_addNext_1 : decode cX2_addNext 1 = .ok (.ifCond .lt 19, 3) := dget zdX2_addNext_0 1 rfl
theorem dX2_addNext_4 : decode cX2_addNext 4 = .ok (.iload_n 1, 1) := dget zdX2_addNext_0 2 rfl
theorem dX2_addNext_5 : decode cX2_addNext 5 = .ok (.bipush 20, 2) := dget zdX2_addNext_0 3 rfl
theorem dX2_addNext_7 : decode cX2_addNext 7 = .ok (.if_icmp .gt 13, 3) := dget zdX2_addNext_0 4 rfl
theorem dX2_addNext_10 : decode cX2_addNext 10 = .ok (.aload_n 0, 1) := dget zdX2_addNext_0 5 rfl
theorem dX2_addNext_11 : decode cX2_addNext 11 = .ok (.getfield 15, 3) := dget zdX2_addNext_0 6 rfl
theorem dX2_addNext_14 : decode cX2_addNext 14 = .ok (.iload_n 1, 1) := dget zdX2_addNext_0 7 rfl
theorem dX2_addNext_15 : decode cX2_addNext 15 = .ok (.dup2, 1) := dget zdX2_addNext_0 8 rfl
theorem dX2_addNext_16 : decode cX2_addNext 16 = .ok (.iaload, 1) := dget zdX2_addNext_0 9 rfl
theorem dX2_addNext_17 : decode cX2_addNext 17 = .ok (.iload_n 2, 1) := dget zdX2_addNext_0 10 rfl
theorem dX2_addNext_18 : decode cX2_addNext 18 = .ok (.iadd, 1) := dget zdX2_addNext_0 11 rfl
theorem dX2_addNext_19 : decode cX2_addNext 19 = .ok (.iastore, 1) := dget zdX2_addNext_0 12 rfl
theorem dX2_addNext_20 : decode cX2_addNext 20 = .ok (.return_, 1) := dget zdX2_addNext_0 13 rfl
theorem zdX2_waysOf_0 : dchk cX2_waysOf [(0, .iload_n 1, 1), (1, .ifCond .lt 18, 3), (4, .iload_n 1, 1), (5, .bipush 20, 2), (7, .if_icmp .gt 12, 3), (10, .aload_n 0, 1), (11, .getfield 9, 3), (14, .iload_n 1, 1), (15, .iaload, 1), (16, .goto 4, 3), (19, .iconst 0, 1), (20, .ireturn, 1)] = true := by decide +kernel
theorem dX2_waysOf_0 : decode cX2_waysOf 0 = .ok (.iload_n 1, 1) := dget zdX2_waysOf_0 0 rfl
theorem dX2_waysOf_1 : decode cX2_waysOf 1 = .ok (.ifCond .lt 18, 3) := dget zdX2_waysOf_0 1 rfl
theorem dX2_waysOf_4 : decode cX2_waysOf 4 = .ok (.iload_n 1, 1) := dget zdX2_waysOf_0 2 rfl
theorem dX2_waysOf_5 : decode cX2_waysOf 5 = .ok (.bipush 20, 2) := dget zdX2_waysOf_0 3 rfl
theorem dX2_waysOf_7 : decode cX2_waysOf 7 = .ok (.if_icmp .gt 12, 3) := dget zdX2_waysOf_0 4 rfl
theorem dX2_waysOf_10 : decode cX2_waysOf 10 = .ok (.aload_n 0, 1) := dget zdX2_waysOf_0 5 rfl
theorem dX2_waysOf_11 : decode cX2_waysOf 11 = .ok (.getfield 9, 3) := dget zdX2_waysOf_0 6 rfl
theorem dX2_waysOf_14 : decode cX2_waysOf 14 = .ok (.iload_n 1, 1) := dget zdX2_waysOf_0 7 rfl
theorem dX2_waysOf_15 : decode cX2_waysOf 15 = .ok (.iaload, 1) := dget zdX2_waysOf_0 8 rfl
theorem dX2_waysOf_16 : decode cX2_waysOf 16 = .ok (.goto 4, 3) := dget zdX2_waysOf_0 9 rfl
theorem dX2_waysOf_19 : decode cX2_waysOf 19 = .ok (.iconst 0, 1) := dget zdX2_waysOf_0 10 rfl
theorem dX2_waysOf_20 : decode cX2_waysOf 20 = .ok (.ireturn, 1) := dget zdX2_waysOf_0 11 rfl
theorem zdX2_putWays_0 : dchk cX2_putWays [(0, .iload_n 1, 1), (1, .ifCond .lt 16, 3), (4, .iload_n 1, 1), (5, .bipush 20, 2), (7, .if_icmp .gt 10, 3), (10, .aload_n 0, 1), (11, .getfield 9, 3), (14, .iload_n 1, 1), (15, .iload_n 2, 1), (16, .iastore, 1), (17, .return_, 1)] = true := by decide +kernel
theorem dX2_putWays_0 : decode cX2_putWays 0 = .ok (.iload_n 1, 1) := dget zdX2_putWays_0 0 rfl
theorem dX2_putWays_1 : decode cX2_putWays 1 = .ok (.ifCond .lt 16, 3) := dget zdX2_putWays_0 1 rfl
theorem dX2_putWays_4 : decode cX2_putWays 4 = .ok (.iload_n 1, 1) := dget zdX2_putWays_0 2 rfl
theorem dX2_putWays_5 : decode cX2_putWays 5 = .ok (.bipush 20, 2) := dget zdX2_putWays_0 3 rfl
theorem dX2_putWays_7 : decode cX2_putWays 7 = .ok (.if_icmp .gt 10, 3) := dget zdX2_putWays_0 4 rfl
theorem dX2_putWays_10 : decode cX2_putWays 10 = .ok (.aload_n 0, 1) := dget zdX2_putWays_0 5 rfl
theorem dX2_putWays_11 : decode cX2_putWays 11 = .ok (.getfield 9, 3) := dget zdX2_putWays_0 6 rfl
theorem dX2_putWays_14 : decode cX2_putWays 14 = .ok (.iload_n 1, 1) := dget zdX2_putWays_0 7 rfl
theorem dX2_putWays_15 : decode cX2_putWays 15 = .ok (.iload_n 2, 1) := dget zdX2_putWays_0 8 rfl
theorem dX2_putWays_16 : decode cX2_putWays 16 = .ok (.iastore, 1) := dget zdX2_putWays_0 9 rfl
theorem dX2_putWays_17 : decode cX2_putWays 17 = .ok (.return_, 1) := dget zdX2_putWays_0 10 rfl
theorem zdX2_allWays_0 : dchk cX2_allWays [(0, .iconst 0, 1), (1, .istore_n 1, 1), (2, .iconst 0, 1), (3, .istore_n 2, 1), (4, .iload_n 2, 1), (5, .bipush 20, 2), (7, .if_icmp .gt 17, 3), (10, .iload_n 1, 1), (11, .aload_n 0, 1), (12, .iload_n 2, 1), (13, .invokevirtual 45, 3), (16, .iadd, 1), (17, .istore_n 1, 1), (18, .iinc 2 1, 3), (21, .goto (-17), 3), (24, .iload_n 1, 1), (25, .ireturn, 1)] = true := by decide +kernel
theorem dX2_allWays_0 : decode cX2_allWays 0 = .ok (.iconst 0, 1) := dget zdX2_allWays_0 0 rfl
theorem dX2_allWays_1 : decode cX2_allWays 1 = .ok (.istore_n 1, 1) := dget zdX2_allWays_0 1 rfl
theorem dX2_allWays_2 : decode cX2_allWays 2 = .ok (.iconst 0, 1) := dget zdX2_allWays_0 2 rfl
theorem dX2_allWays_3 : decode cX2_allWays 3 = .ok (.istore_n 2, 1) := dget zdX2_allWays_0 3 rfl
theorem dX2_allWays_4 : decode cX2_allWays 4 = .ok (.iload_n 2, 1) := dget zdX2_allWays_0 4 rfl
theorem dX2_allWays_5 : decode cX2_allWays 5 = .ok (.bipush 20, 2) := dget zdX2_allWays_0 5 rfl
theorem dX2_allWays_7 : decode cX2_allWays 7 = .ok (.if_icmp .gt 17, 3) := dget zdX2_allWays_0 6 rfl
theorem dX2_allWays_10 : decode cX2_allWays 10 = .ok (.iload_n 1, 1) := dget zdX2_allWays_0 7 rfl
theorem dX2_allWays_11 : decode cX2_allWays 11 = .ok (.aload_n 0, 1) := dget zdX2_allWays_0 8 rfl
theorem dX2_allWays_12 : decode cX2_allWays 12 = .ok (.iload_n 2, 1) := dget zdX2_allWays_0 9 rfl
theorem dX2_allWays_13 : decode cX2_allWays 13 = .ok (.invokevirtual 45, 3) := dget zdX2_allWays_0 10 rfl
theorem dX2_allWays_16 : decode cX2_allWays 16 = .ok (.iadd, 1) := dget zdX2_allWays_0 11 rfl
theorem dX2_allWays_17 : decode cX2_allWays 17 = .ok (.istore_n 1, 1) := dget zdX2_allWays_0 12 rfl
theorem dX2_allWays_18 : decode cX2_allWays 18 = .ok (.iinc 2 1, 3) := dget zdX2_allWays_0 13 rfl
theorem dX2_allWays_21 : decode cX2_allWays 21 = .ok (.goto (-17), 3) := dget zdX2_allWays_0 14 rfl
theorem dX2_allWays_24 : decode cX2_allWays 24 = .ok (.iload_n 1, 1) := dget zdX2_allWays_0 15 rfl
theorem dX2_allWays_25 : decode cX2_allWays 25 = .ok (.ireturn, 1) := dget zdX2_allWays_0 16 rfl
theorem zdX2_setLowest_0 : dchk cX2_setLowest [(0, .iload_n 1, 1), (1, .iload_n 2, 1), (2, .invokestatic 67, 3), (5, .istore_n 3, 1), (6, .iload_n 3, 1), (7, .ifCond .gt 4, 3), (10, .return_, 1), (11, .aload_n 0, 1), (12, .iload_n 1, 1), (13, .iload_n 3, 1), (14, .idiv, 1), (15, .putfield 18, 3), (18, .aload_n 0, 1), (19, .iload_n 2, 1), (20, .iload_n 3, 1), (21, .idiv, 1), (22, .putfield 22, 3), (25, .return_, 1)] = true := by decide +kernel
theorem dX2_setLowest_0 : decode cX2_setLowest 0 = .ok (.iload_n 1, 1) := dget zdX2_setLowest_0 0 rfl
theorem dX2_setLowest_1 : decode cX2_setLowest 1 = .ok (.iload_n 2, 1) := dget zdX2_setLowest_0 1 rfl
theorem dX2_setLowest_2 : decode cX2_setLowest 2 = .ok (.invokestatic 67, 3) := dget zdX2_setLowest_0 2 rfl
theorem dX2_setLowest_5 : decode cX2_setLowest 5 = .ok (.istore_n 3, 1) := dget zdX2_setLowest_0 3 rfl
theorem dX2_setLowest_6 : decode cX2_setLowest 6 = .ok (.iload_n 3, 1) := dget zdX2_setLowest_0 4 rfl
theorem dX2_setLowest_7 : decode cX2_setLowest 7 = .ok (.ifCond .gt 4, 3) := dget zdX2_setLowest_0 5 rfl
theorem dX2_setLowest_10 : decode cX2_setLowest 10 = .ok (.return_, 1) := dget zdX2_setLowest_0 6 rfl
theorem dX2_setLowest_11 : decode cX2_setLowest 11 = .ok (.aload_n 0, 1) := dget zdX2_setLowest_0 7 rfl
theorem dX2_setLowest_12 : decode cX2_setLowest 12 = .ok (.iload_n 1, 1) := dget zdX2_setLowest_0 8 rfl
theorem dX2_setLowest_13 : decode cX2_setLowest 13 = .ok (.iload_n 3, 1) := dget zdX2_setLowest_0 9 rfl
theorem dX2_setLowest_14 : decode cX2_setLowest 14 = .ok (.idiv, 1) := dget zdX2_setLowest_0 10 rfl
theorem dX2_setLowest_15 : decode cX2_setLowest 15 = .ok (.putfield 18, 3) := dget zdX2_setLowest_0 11 rfl
theorem dX2_setLowest_18 : decode cX2_setLowest 18 = .ok (.aload_n 0, 1) := dget zdX2_setLowest_0 12 rfl
theorem dX2_setLowest_19 : decode cX2_setLowest 19 = .ok (.iload_n 2, 1) := dget zdX2_setLowest_0 13 rfl
theorem dX2_setLowest_20 : decode cX2_setLowest 20 = .ok (.iload_n 3, 1) := dget zdX2_setLowest_0 14 rfl
theorem dX2_setLowest_21 : decode cX2_setLowest 21 = .ok (.idiv, 1) := dget zdX2_setLowest_0 15 rfl
theorem dX2_setLowest_22 : decode cX2_setLowest 22 = .ok (.putfield 22, 3) := dget zdX2_setLowest_0 16 rfl
theorem dX2_setLowest_25 : decode cX2_setLowest 25 = .ok (.return_, 1) := dget zdX2_setLowest_0 17 rfl
theorem zdX2_commonDivisor_0 : dchk cX2_commonDivisor [(0, .iload_n 0, 1), (1, .istore_n 2, 1), (2, .iload_n 1, 1), (3, .istore_n 3, 1), (4, .iconst 0, 1), (5, .istore 4, 2), (7, .iload 4, 2), (9, .bipush 64, 2), (11, .if_icmp .ge 23, 3), (14, .iload_n 3, 1), (15, .ifCond .eq 19, 3), (18, .iload_n 2, 1), (19, .iload_n 3, 1), (20, .irem, 1), (21, .istore 5, 2), (23, .iload_n 3, 1), (24, .istore_n 2, 1), (25, .iload 5, 2), (27, .istore_n 3, 1), (28, .iinc 4 1, 3), (31, .goto (-24), 3), (34, .iload_n 2, 1), (35, .ireturn, 1)] = true := by decide +kernel
theorem dX2_commonDivisor_0 : decode cX2_commonDivisor 0 = .ok (.iload_n 0, 1) := dget zdX2_commonDivisor_0 0 rfl
theorem dX2_commonDivisor_1 : decode cX2_commonDivisor 1 = .ok (.istore_n 2, 1) := dget zdX2_commonDivisor_0 1 rfl
theorem dX2_commonDivisor_2 : decode cX2_commonDivisor 2 = .ok (.iload_n 1, 1) := dget zdX2_commonDivisor_0 2 rfl
theorem dX2_commonDivisor_3 : decode cX2_commonDivisor 3 = .ok (.istore_n 3, 1) := dget zdX2_commonDivisor_0 3 rfl
theorem dX2_commonDivisor_4 : decode cX2_commonDivisor 4 = .ok (.iconst 0, 1) := dget zdX2_commonDivisor_0 4 rfl
theorem dX2_commonDivisor_5 : decode cX2_commonDivisor 5 = .ok (.istore 4, 2) := dget zdX2_commonDivisor_0 5 rfl
theorem dX2_commonDivisor_7 : decode cX2_commonDivisor 7 = .ok (.iload 4, 2) := dget zdX2_commonDivisor_0 6 rfl
theorem dX2_commonDivisor_9 : decode cX2_commonDivisor 9 = .ok (.bipush 64, 2) := dget zdX2_commonDivisor_0 7 rfl
theorem dX2_commonDivisor_11 : decode cX2_commonDivisor 11 = .ok (.if_icmp .ge 23, 3) := dget zdX2_commonDivisor_0 8 rfl
theorem dX2_commonDivisor_14 : decode cX2_commonDivisor 14 = .ok (.iload_n 3, 1) := dget zdX2_commonDivisor_0 9 rfl
theorem dX2_commonDivisor_15 : decode cX2_commonDivisor 15 = .ok (.ifCond .eq 19, 3) := dget zdX2_commonDivisor_0 10 rfl
theorem dX2_commonDivisor_18 : decode cX2_commonDivisor 18 = .ok (.iload_n 2, 1) := dget zdX2_commonDivisor_0 11 rfl
theorem dX2_commonDivisor_19 : decode cX2_commonDivisor 19 = .ok (.iload_n 3, 1) := dget zdX2_commonDivisor_0 12 rfl
theorem dX2_commonDivisor_20 : decode cX2_commonDivisor 20 = .ok (.irem, 1) := dget zdX2_commonDivisor_0 13 rfl
theorem dX2_commonDivisor_21 : decode cX2_commonDivisor 21 = .ok (.istore 5, 2) := dget zdX2_commonDivisor_0 14 rfl
theorem dX2_commonDivisor_23 : decode cX2_commonDivisor 23 = .ok (.iload_n 3, 1) := dget zdX2_commonDivisor_0 15 rfl
theorem dX2_commonDivisor_24 : decode cX2_commonDivisor 24 = .ok (.istore_n 2, 1) := dget zdX2_commonDivisor_0 16 rfl
theorem dX2_commonDivisor_25 : decode cX2_commonDivisor 25 = .ok (.iload 5, 2) := dget zdX2_commonDivisor_0 17 rfl
theorem dX2_commonDivisor_27 : decode cX2_commonDivisor 27 = .ok (.istore_n 3, 1) := dget zdX2_commonDivisor_0 18 rfl
theorem dX2_commonDivisor_28 : decode cX2_commonDivisor 28 = .ok (.iinc 4 1, 3) := dget zdX2_commonDivisor_0 19 rfl
theorem dX2_commonDivisor_31 : decode cX2_commonDivisor 31 = .ok (.goto (-24), 3) := dget zdX2_commonDivisor_0 20 rfl
theorem dX2_commonDivisor_34 : decode cX2_commonDivisor 34 = .ok (.iload_n 2, 1) := dget zdX2_commonDivisor_0 21 rfl
theorem dX2_commonDivisor_35 : decode cX2_commonDivisor 35 = .ok (.ireturn, 1) := dget zdX2_commonDivisor_0 22 rfl
theorem zdX3_init_0 : dchk cX3_init [(0, .aload_n 0, 1), (1, .invokespecial 3, 3), (4, .aload_n 0, 1), (5, .bipush 8, 2), (7, .newarray .int, 2), (9, .putfield 9, 3), (12, .aload_n 0, 1), (13, .bipush 8, 2), (15, .newarray .int, 2), (17, .putfield 15, 3), (20, .aload_n 0, 1), (21, .iconst 0, 1), (22, .putfield 18, 3), (25, .aload_n 0, 1), (26, .bipush 99, 2), (28, .putfield 22, 3), (31, .return_, 1)] = true := by decide +kernel
theorem dX3_init_0 : decode cX3_init 0 = .ok (.aload_n 0, 1) := dget zdX3_init_0 0 rfl
theorem dX3_init_1 : decode cX3_init 1 = .ok (.invokespecial 3, 3) := dget zdX3_init_0 1 rfl
theorem dX3_init_4 : decode cX3_init 4 = .ok (.aload_n 0, 1) := dget zdX3_init_0 2 rfl
theorem dX3_init_5 : decode cX3_init 5 = .ok (.bipush 8, 2) := dget zdX3_init_0 3 rfl
theorem dX3_init_7 : decode cX3_init 7 = .ok (.newarray .int, 2) := dget zdX3_init_0 4 rfl
theorem dX3_init_9 : decode cX3_init 9 = .ok (.putfield 9, 3) := dget zdX3_init_0 5 rfl
theorem dX3_init_12 : decode cX3_init 12 = .ok (.aload_n 0, 1) := dget zdX3_init_0 6 rfl
theorem dX3_init_13 : decode cX3_init 13 = .ok (.bipush 8, 2) := dget zdX3_init_0 7 rfl
theorem dX3_init_15 : decode cX3_init 15 = .ok (.newarray .int, 2) := dget zdX3_init_0 8 rfl
theorem dX3_init_17 : decode cX3_init 17 = .ok (.putfield 15, 3) := dget zdX3_init_0 9 rfl
theorem dX3_init_20 : decode cX3_init 20 = .ok (.aload_n 0, 1) := dget zdX3_init_0 10 rfl
theorem dX3_init_21 : decode cX3_init 21 = .ok (.iconst 0, 1) := dget zdX3_init_0 11 rfl
theorem dX3_init_22 : decode cX3_init 22 = .ok (.putfield 18, 3) := dget zdX3_init_0 12 rfl
theorem dX3_init_25 : decode cX3_init 25 = .ok (.aload_n 0, 1) := dget zdX3_init_0 13 rfl
theorem dX3_init_26 : decode cX3_init 26 = .ok (.bipush 99, 2) := dget zdX3_init_0 14 rfl
theorem dX3_init_28 : decode cX3_init 28 = .ok (.putfield 22, 3) := dget zdX3_init_0 15 rfl
theorem dX3_init_31 : decode cX3_init 31 = .ok (.return_, 1) := dget zdX3_init_0 16 rfl
theorem zdX3_run_0 : dchk cX3_run [(0, .iload 4, 2), (2, .bipush 10, 2), (4, .if_icmp .le 7, 3), (7, .iconst 1, 1), (8, .goto 4, 3), (11, .iconst 0, 1), (12, .istore 5, 2), (14, .iload 5, 2), (16, .ifCond .eq 11, 3), (19, .iload 4, 2), (21, .bipush 10, 2), (23, .isub, 1), (24, .goto 5, 3), (27, .iload 4, 2), (29, .iconst 1, 1), (30, .isub, 1), (31, .istore 6, 2), (33, .iload_n 2, 1), (34, .istore 7, 2), (36, .iload_n 3, 1), (37, .istore 8, 2), (39, .aload_n 0, 1), (40, .iconst 0, 1), (41, .putfield 18, 3), (44, .aload_n 0, 1), (45, .bipush 99, 2), (47, .putfield 22, 3), (50, .iconst 0, 1), (51, .istore 9, 2), (53, .iload 9, 2), (55, .aload_n 1, 1), (56, .getfield 25, 3), (59, .if_icmp .ge 144, 3), (62, .iload 9, 2), (64, .bipush 8, 2), (66, .if_icmp .ge 137, 3), (69, .iload 9, 2), (71, .aload_n 1, 1), (72, .getfield 30, 3), (75, .imul, 1), (76, .iload 7, 2), (78, .iadd, 1), (79, .istore 10, 2), (81, .aload_n 1, 1), (82, .iload 10, 2), (84, .invokevirtual 33, 3), (87, .iload 8, 2), (89, .invokestatic 37, 3), (92, .istore 8, 2), (94, .iload 8, 2), (96, .ifCond .le 63, 3), (99, .iload 9, 2), (101, .iload 6, 2), (103, .if_icmp .ne 56, 3), (106, .iinc 8 (-1), 3), (109, .aload_n 1, 1), (110, .iload 5, 2), (112, .ifCond .eq 10, 3), (115, .iload 7, 2), (117, .iconst 1, 1), (118, .iadd, 1), (119, .goto 7, 3), (122, .iload 7, 2), (124, .iconst 1, 1), (125, .isub, 1), (126, .invokevirtual 41, 3), (129, .ifCond .eq 7, 3), (132, .iconst 1, 1), (133, .goto 4, 3), (136, .iconst 0, 1), (137, .istore 11, 2), (139, .iload 5, 2), (141, .ifCond .eq 11, 3), (144, .iload 7, 2), (146, .iload 11, 2), (148, .iadd, 1), (149, .goto 8, 3), (152, .iload 7, 2), (154, .iload 11, 2), (156, .isub, 1), (157, .istore 7, 2), (159, .aload_n 0, 1), (160, .getfield 9, 3), (163, .iload 9, 2), (165, .iload 10, 2), (167, .iastore, 1), (168, .aload_n 0, 1), (169, .getfield 15, 3), (172, .iload 9, 2), (174, .iload 8, 2), (176, .iastore, 1), (177, .aload_n 0, 1), (178, .iload 9, 2), (180, .iconst 1, 1), (181, .iadd, 1), (182, .putfield 18, 3), (185, .iload 8, 2), (187, .ifCond .ne 10, 3), (190, .aload_n 0, 1), (191, .iload 10, 2), (193, .putfield 22, 3), (196, .return_, 1), (197, .iinc 9 1, 3), (200, .goto (-147), 3), (203, .return_, 1)] = true := by decide +kernel
theorem dX3_run_0 : decode cX3_run 0 = .ok (.iload 4, 2) := dget zdX3_run_0 0 rfl
theorem dX3_run_2 : decode cX3_run 2 = .ok (.bipush 10, 2) := dget zdX3_run_0 1 rfl
theorem dX3_run_4 : decode cX3_run 4 = .ok (.if_icmp .le 7, 3) := dget zdX3_run_0 2 rfl
theorem dX3_run_7 : decode cX3_run 7 = .ok (.iconst 1, 1) := dget zdX3_run_0 3 rfl
theorem dX3_run_8 : decode cX3_run 8 = .ok (.goto 4, 3) := dget zdX3_run_0 4 rfl
theorem dX3_run_11 : decode cX3_run 11 = .ok (.iconst 0, 1) := dget zdX3_run_0 5 rfl
theorem dX3_run_12 : decode cX3_run 12 = .ok (.istore 5, 2) := dget zdX3_run_0 6 rfl
theorem dX3_run_14 : decode cX3_run 14 = .ok (.iload 5, 2) := dget zdX3_run_0 7 rfl
theorem dX3_run_16 : decode cX3_run 16 = .ok (.ifCond .eq 11, 3) := dget zdX3_run_0 8 rfl
theorem dX3_run_19 : decode cX3_run 19 = .ok (.iload 4, 2) := dget zdX3_run_0 9 rfl
theorem dX3_run_21 : decode cX3_run 21 = .ok (.bipush 10, 2) := dget zdX3_run_0 10 rfl
theorem dX3_run_23 : decode cX3_run 23 = .ok (.isub, 1) := dget zdX3_run_0 11 rfl
theorem dX3_run_24 : decode cX3_run 24 = .ok (.goto 5, 3) := dget zdX3_run_0 12 rfl
theorem dX3_run_27 : decode cX3_run 27 = .ok (.iload 4, 2) := dget zdX3_run_0 13 rfl
theorem dX3_run_29 : decode cX3_run 29 = .ok (.iconst 1, 1) := dget zdX3_run_0 14 rfl
theorem dX3_run_30 : decode cX3_run 30 = .ok (.isub, 1) := dget zdX3_run_0 15 rfl
theorem dX3_run_31 : decode cX3_run 31 = .ok (.istore 6, 2) := dget zdX3_run_0 16 rfl
theorem dX3_run_33 : decode cX3_run 33 = .ok (.iload_n 2, 1) := dget zdX3_run_0 17 rfl
theorem dX3_run_34 : decode cX3_run 34 = .ok (.istore 7, 2) := dget zdX3_run_0 18 rfl
theorem dX3_run_36 : decode cX3_run 36 = .ok (.iload_n 3, 1) := dget zdX3_run_0 19 rfl
theorem dX3_run_37 : decode cX3_run 37 = .ok (.istore 8, 2) := dget zdX3_run_0 20 rfl
theorem dX3_run_39 : decode cX3_run 39 = .ok (.aload_n 0, 1) := dget zdX3_run_0 21 rfl
theorem dX3_run_40 : decode cX3_run 40 = .ok (.iconst 0, 1) := dget zdX3_run_0 22 rfl
theorem dX3_run_41 : decode cX3_run 41 = .ok (.putfield 18, 3) := dget zdX3_run_0 23 rfl
theorem dX3_run_44 : decode cX3_run 44 = .ok (.aload_n 0, 1) := dget zdX3_run_0 24 rfl
theorem dX3_run_45 : decode cX3_run 45 = .ok (.bipush 99, 2) := dget zdX3_run_0 25 rfl
theorem dX3_run_47 : decode cX3_run 47 = .ok (.putfield 22, 3) := dget zdX3_run_0 26 rfl
theorem dX3_run_50 : decode cX3_run 50 = .ok (.iconst 0, 1) := dget zdX3_run_0 27 rfl
theorem dX3_run_51 : decode cX3_run 51 = .ok (.istore 9, 2) := dget zdX3_run_0 28 rfl
theorem dX3_run_53 : decode cX3_run 53 = .ok (.iload 9, 2) := dget zdX3_run_0 29 rfl
theorem dX3_run_55 : decode cX3_run 55 = .ok (.aload_n 1, 1) := dget zdX3_run_0 30 rfl
theorem dX3_run_56 : decode cX3_run 56 = .ok (.getfield 25, 3) := dget zdX3_run_0 31 rfl
theorem dX3_run_59 : decode cX3_run 59 = .ok (.if_icmp .ge 144, 3) := dget zdX3_run_0 32 rfl
theorem dX3_run_62 : decode cX3_run 62 = .ok (.iload 9, 2) := dget zdX3_run_0 33 rfl
theorem dX3_run_64 : decode cX3_run 64 = .ok (.bipush 8, 2) := dget zdX3_run_0 34 rfl
theorem dX3_run_66 : decode cX3_run 66 = .ok (.if_icmp .ge 137, 3) := dget zdX3_run_0 35 rfl
theorem dX3_run_69 : decode cX3_run 69 = .ok (.iload 9, 2) := dget zdX3_run_0 36 rfl
theorem dX3_run_71 : decode cX3_run 71 = .ok (.aload_n 1, 1) := dget zdX3_run_0 37 rfl
theorem dX3_run_72 : decode cX3_run 72 = .ok (.getfield 30, 3) := dget zdX3_run_0 38 rfl
theorem dX3_run_75 : decode cX3_run 75 = .ok (.imul, 1) := dget zdX3_run_0 39 rfl
theorem dX3_run_76 : decode cX3_run 76 = .ok (.iload 7, 2) := dget zdX3_run_0 40 rfl
theorem dX3_run_78 : decode cX3_run 78 = .ok (.iadd, 1) := dget zdX3_run_0 41 rfl
theorem dX3_run_79 : decode cX3_run 79 = .ok (.istore 10, 2) := dget zdX3_run_0 42 rfl
theorem dX3_run_81 : decode cX3_run 81 = .ok (.aload_n 1, 1) := dget zdX3_run_0 43 rfl
theorem dX3_run_82 : decode cX3_run 82 = .ok (.iload 10, 2) := dget zdX3_run_0 44 rfl
theorem dX3_run_84 : decode cX3_run 84 = .ok (.invokevirtual 33, 3) := dget zdX3_run_0 45 rfl
theorem dX3_run_87 : decode cX3_run 87 = .ok (.iload 8, 2) := dget zdX3_run_0 46 rfl
theorem dX3_run_89 : decode cX3_run 89 = .ok (.invokestatic 37, 3) := dget zdX3_run_0 47 rfl
theorem dX3_run_92 : decode cX3_run 92 = .ok (.istore 8, 2) := dget zdX3_run_0 48 rfl
theorem dX3_run_94 : decode cX3_run 94 = .ok (.iload 8, 2) := dget zdX3_run_0 49 rfl
theorem dX3_run_96 : decode cX3_run 96 = .ok (.ifCond .le 63, 3) := dget zdX3_run_0 50 rfl
theorem dX3_run_99 : decode cX3_run 99 = .ok (.iload 9, 2) := dget zdX3_run_0 51 rfl
theorem dX3_run_101 : decode cX3_run 101 = .ok (.iload 6, 2) := dget zdX3_run_0 52 rfl
theorem dX3_run_103 : decode cX3_run 103 = .ok (.if_icmp .ne 56, 3) := dget zdX3_run_0 53 rfl
theorem dX3_run_106 : decode cX3_run 106 = .ok (.iinc 8 (-1), 3) := dget zdX3_run_0 54 rfl
theorem dX3_run_109 : decode cX3_run 109 = .ok (.aload_n 1, 1) := dget zdX3_run_0 55 rfl
theorem dX3_run_110 : decode cX3_run 110 = .ok (.iload 5, 2) := dget zdX3_run_0 56 rfl
theorem dX3_run_112 : decode cX3_run 112 = .ok (.ifCond .eq 10, 3) := dget zdX3_run_0 57 rfl
theorem dX3_run_115 : decode cX3_run 115 = .ok (.iload 7, 2) := dget zdX3_run_0 58 rfl
theorem dX3_run_117 : decode cX3_run 117 = .ok (.iconst 1, 1) := dget zdX3_run_0 59 rfl
theorem dX3_run_118 : decode cX3_run 118 = .ok (.iadd, 1) := dget zdX3_run_0 60 rfl
theorem dX3_run_119 : decode cX3_run 119 = .ok (.goto 7, 3) := dget zdX3_run_0 61 rfl
theorem dX3_run_122 : decode cX3_run 122 = .ok (.iload 7, 2) := dget zdX3_run_0 62 rfl
theorem dX3_run_124 : decode cX3_run 124 = .ok (.iconst 1, 1) := dget zdX3_run_0 63 rfl
theorem dX3_run_125 : decode cX3_run 125 = .ok (.isub, 1) := dget zdX3_run_0 64 rfl
theorem dX3_run_126 : decode cX3_run 126 = .ok (.invokevirtual 41, 3) := dget zdX3_run_0 65 rfl
theorem dX3_run_129 : decode cX3_run 129 = .ok (.ifCond .eq 7, 3) := dget zdX3_run_0 66 rfl
theorem dX3_run_132 : decode cX3_run 132 = .ok (.iconst 1, 1) := dget zdX3_run_0 67 rfl
theorem dX3_run_133 : decode cX3_run 133 = .ok (.goto 4, 3) := dget zdX3_run_0 68 rfl
theorem dX3_run_136 : decode cX3_run 136 = .ok (.iconst 0, 1) := dget zdX3_run_0 69 rfl
theorem dX3_run_137 : decode cX3_run 137 = .ok (.istore 11, 2) := dget zdX3_run_0 70 rfl
theorem dX3_run_139 : decode cX3_run 139 = .ok (.iload 5, 2) := dget zdX3_run_0 71 rfl
theorem dX3_run_141 : decode cX3_run 141 = .ok (.ifCond .eq 11, 3) := dget zdX3_run_0 72 rfl
theorem dX3_run_144 : decode cX3_run 144 = .ok (.iload 7, 2) := dget zdX3_run_0 73 rfl
theorem dX3_run_146 : decode cX3_run 146 = .ok (.iload 11, 2) := dget zdX3_run_0 74 rfl
theorem dX3_run_148 : decode cX3_run 148 = .ok (.iadd, 1) := dget zdX3_run_0 75 rfl
theorem dX3_run_149 : decode cX3_run 149 = .ok (.goto 8, 3) := dget zdX3_run_0 76 rfl
theorem dX3_run_152 : decode cX3_run 152 = .ok (.iload 7, 2) := dget zdX3_run_0 77 rfl
theorem dX3_run_154 : decode cX3_run 154 = .ok (.iload 11, 2) := dget zdX3_run_0 78 rfl
theorem dX3_run_156 : decode cX3_run 156 = .ok (.isub, 1) := dget zdX3_run_0 79 rfl
theorem dX3_run_157 : decode cX3_run 157 = .ok (.istore 7, 2) := dget zdX3_run_0 80 rfl
theorem dX3_run_159 : decode cX3_run 159 = .ok (.aload_n 0, 1) := dget zdX3_run_0 81 rfl
theorem dX3_run_160 : decode cX3_run 160 = .ok (.getfield 9, 3) := dget zdX3_run_0 82 rfl
theorem dX3_run_163 : decode cX3_run 163 = .ok (.iload 9, 2) := dget zdX3_run_0 83 rfl
theorem dX3_run_165 : decode cX3_run 165 = .ok (.iload 10, 2) := dget zdX3_run_0 84 rfl
theorem dX3_run_167 : decode cX3_run 167 = .ok (.iastore, 1) := dget zdX3_run_0 85 rfl
theorem dX3_run_168 : decode cX3_run 168 = .ok (.aload_n 0, 1) := dget zdX3_run_0 86 rfl
theorem dX3_run_169 : decode cX3_run 169 = .ok (.getfield 15, 3) := dget zdX3_run_0 87 rfl
theorem dX3_run_172 : decode cX3_run 172 = .ok (.iload 9, 2) := dget zdX3_run_0 88 rfl
theorem dX3_run_174 : decode cX3_run 174 = .ok (.iload 8, 2) := dget zdX3_run_0 89 rfl
theorem dX3_run_176 : decode cX3_run 176 = .ok (.iastore, 1) := dget zdX3_run_0 90 rfl
theorem dX3_run_177 : decode cX3_run 177 = .ok (.aload_n 0, 1) := dget zdX3_run_0 91 rfl
theorem dX3_run_178 : decode cX3_run 178 = .ok (.iload 9, 2) := dget zdX3_run_0 92 rfl
theorem dX3_run_180 : decode cX3_run 180 = .ok (.iconst 1, 1) := dget zdX3_run_0 93 rfl
theorem dX3_run_181 : decode cX3_run 181 = .ok (.iadd, 1) := dget zdX3_run_0 94 rfl
theorem dX3_run_182 : decode cX3_run 182 = .ok (.putfield 18, 3) := dget zdX3_run_0 95 rfl
theorem dX3_run_185 : decode cX3_run 185 = .ok (.iload 8, 2) := dget zdX3_run_0 96 rfl
theorem dX3_run_187 : decode cX3_run 187 = .ok (.ifCond .ne 10, 3) := dget zdX3_run_0 97 rfl
theorem dX3_run_190 : decode cX3_run 190 = .ok (.aload_n 0, 1) := dget zdX3_run_0 98 rfl
theorem dX3_run_191 : decode cX3_run 191 = .ok (.iload 10, 2) := dget zdX3_run_0 99 rfl
theorem dX3_run_193 : decode cX3_run 193 = .ok (.putfield 22, 3) := dget zdX3_run_0 100 rfl
theorem dX3_run_196 : decode cX3_run 196 = .ok (.return_, 1) := dget zdX3_run_0 101 rfl
theorem dX3_run_197 : decode cX3_run 197 = .ok (.iinc 9 1, 3) := dget zdX3_run_0 102 rfl
theorem dX3_run_200 : decode cX3_run 200 = .ok (.goto (-147), 3) := dget zdX3_run_0 103 rfl
theorem dX3_run_203 : decode cX3_run 203 = .ok (.return_, 1) := dget zdX3_run_0 104 rfl
theorem zdX3_speedOver_0 : dchk cX3_speedOver [(0, .iload_n 0, 1), (1, .tableswitch 66 0 3 #[31, 39, 48, 56], 31), (32, .iload_n 1, 1), (33, .iconst 2, 1), (34, .isub, 1), (35, .iconst 0, 1), (36, .invokestatic 45, 3), (39, .ireturn, 1), (40, .iload_n 1, 1), (41, .iconst 1, 1), (42, .iadd, 1), (43, .bipush 20, 2), (45, .invokestatic 50, 3), (48, .ireturn, 1), (49, .iload_n 1, 1), (50, .iconst 5, 1), (51, .isub, 1), (52, .iconst 0, 1), (53, .invokestatic 45, 3), (56, .ireturn, 1), (57, .iload_n 1, 1), (58, .iconst 2, 1), (59, .isub, 1), (60, .iconst 0, 1), (61, .invokestatic 45, 3), (64, .iconst 2, 1), (65, .idiv, 1), (66, .ireturn, 1), (67, .iconst 0, 1), (68, .ireturn, 1)] = true := by decide +kernel
theorem dX3_speedOver_0 : decode cX3_speedOver 0 = .ok (.iload_n 0, 1) := dget zdX3_speedOver_0 0 rfl
theorem dX3_speedOver_1 : decode cX3_speedOver 1 = .ok (.tableswitch 66 0 3 #[31, 39, 48, 56], 31) := dget zdX3_speedOver_0 1 rfl
theorem dX3_speedOver_32 : decode cX3_speedOver 32 = .ok (.iload_n 1, 1) := dget zdX3_speedOver_0 2 rfl
theorem dX3_speedOver_33 : decode cX3_speedOver 33 = .ok (.iconst 2, 1) := dget zdX3_speedOver_0 3 rfl
theorem dX3_speedOver_34 : decode cX3_speedOver 34 = .ok (.isub, 1) := dget zdX3_speedOver_0 4 rfl
theorem dX3_speedOver_35 : decode cX3_speedOver 35 = .ok (.iconst 0, 1) := dget zdX3_speedOver_0 5 rfl
theorem dX3_speedOver_36 : decode cX3_speedOver 36 = .ok (.invokestatic 45, 3) := dget zdX3_speedOver_0 6 rfl
theorem dX3_speedOver_39 : decode cX3_speedOver 39 = .ok (.ireturn, 1) := dget zdX3_speedOver_0 7 rfl
theorem dX3_speedOver_40 : decode cX3_speedOver 40 = .ok (.iload_n 1, 1) := dget zdX3_speedOver_0 8 rfl
theorem dX3_speedOver_41 : decode cX3_speedOver 41 = .ok (.iconst 1, 1) := dget zdX3_speedOver_0 9 rfl
theorem dX3_speedOver_42 : decode cX3_speedOver 42 = .ok (.iadd, 1) := dget zdX3_speedOver_0 10 rfl
theorem dX3_speedOver_43 : decode cX3_speedOver 43 = .ok (.bipush 20, 2) := dget zdX3_speedOver_0 11 rfl
theorem dX3_speedOver_45 : decode cX3_speedOver 45 = .ok (.invokestatic 50, 3) := dget zdX3_speedOver_0 12 rfl
theorem dX3_speedOver_48 : decode cX3_speedOver 48 = .ok (.ireturn, 1) := dget zdX3_speedOver_0 13 rfl
theorem dX3_speedOver_49 : decode cX3_speedOver 49 = .ok (.iload_n 1, 1) := dget zdX3_speedOver_0 14 rfl
theorem dX3_speedOver_50 : decode cX3_speedOver 50 = .ok (.iconst 5, 1) := dget zdX3_speedOver_0 15 rfl
theorem dX3_speedOver_51 : decode cX3_speedOver 51 = .ok (.isub, 1) := dget zdX3_speedOver_0 16 rfl
theorem dX3_speedOver_52 : decode cX3_speedOver 52 = .ok (.iconst 0, 1) := dget zdX3_speedOver_0 17 rfl
theorem dX3_speedOver_53 : decode cX3_speedOver 53 = .ok (.invokestatic 45, 3) := dget zdX3_speedOver_0 18 rfl
theorem dX3_speedOver_56 : decode cX3_speedOver 56 = .ok (.ireturn, 1) := dget zdX3_speedOver_0 19 rfl
theorem dX3_speedOver_57 : decode cX3_speedOver 57 = .ok (.iload_n 1, 1) := dget zdX3_speedOver_0 20 rfl
theorem dX3_speedOver_58 : decode cX3_speedOver 58 = .ok (.iconst 2, 1) := dget zdX3_speedOver_0 21 rfl
theorem dX3_speedOver_59 : decode cX3_speedOver 59 = .ok (.isub, 1) := dget zdX3_speedOver_0 22 rfl
theorem dX3_speedOver_60 : decode cX3_speedOver 60 = .ok (.iconst 0, 1) := dget zdX3_speedOver_0 23 rfl
theorem dX3_speedOver_61 : decode cX3_speedOver 61 = .ok (.invokestatic 45, 3) := dget zdX3_speedOver_0 24 rfl
theorem dX3_speedOver_64 : decode cX3_speedOver 64 = .ok (.iconst 2, 1) := dget zdX3_speedOver_0 25 rfl
theorem dX3_speedOver_65 : decode cX3_speedOver 65 = .ok (.idiv, 1) := dget zdX3_speedOver_0 26 rfl
theorem dX3_speedOver_66 : decode cX3_speedOver 66 = .ok (.ireturn, 1) := dget zdX3_speedOver_0 27 rfl
theorem dX3_speedOver_67 : decode cX3_speedOver 67 = .ok (.iconst 0, 1) := dget zdX3_speedOver_0 28 rfl
theorem dX3_speedOver_68 : decode cX3_speedOver 68 = .ok (.ireturn, 1) := dget zdX3_speedOver_0 29 rfl
theorem zdX3_cameTo_0 : dchk cX3_cameTo [(0, .iload_n 1, 1), (1, .ifCond .lt 21, 3), (4, .iload_n 1, 1), (5, .aload_n 0, 1), (6, .getfield 18, 3), (9, .if_icmp .ge 13, 3), (12, .iload_n 1, 1), (13, .bipush 8, 2), (15, .if_icmp .ge 7, 3), (18, .iconst 1, 1), (19, .goto 4, 3), (22, .iconst 0, 1), (23, .ireturn, 1)] = true := by decide +kernel
theorem dX3_cameTo_0 : decode cX3_cameTo 0 = .ok (.iload_n 1, 1) := dget zdX3_cameTo_0 0 rfl
theorem dX3_cameTo_1 : decode cX3_cameTo 1 = .ok (.ifCond .lt 21, 3) := dget zdX3_cameTo_0 1 rfl
theorem dX3_cameTo_4 : decode cX3_cameTo 4 = .ok (.iload_n 1, 1) := dget zdX3_cameTo_0 2 rfl
theorem dX3_cameTo_5 : decode cX3_cameTo 5 = .ok (.aload_n 0, 1) := dget zdX3_cameTo_0 3 rfl
theorem dX3_cameTo_6 : decode cX3_cameTo 6 = .ok (.getfield 18, 3) := dget zdX3_cameTo_0 4 rfl
theorem dX3_cameTo_9 : decode cX3_cameTo 9 = .ok (.if_icmp .ge 13, 3) := dget zdX3_cameTo_0 5 rfl
theorem dX3_cameTo_12 : decode cX3_cameTo 12 = .ok (.iload_n 1, 1) := dget zdX3_cameTo_0 6 rfl
theorem dX3_cameTo_13 : decode cX3_cameTo 13 = .ok (.bipush 8, 2) := dget zdX3_cameTo_0 7 rfl
theorem dX3_cameTo_15 : decode cX3_cameTo 15 = .ok (.if_icmp .ge 7, 3) := dget zdX3_cameTo_0 8 rfl
theorem dX3_cameTo_18 : decode cX3_cameTo 18 = .ok (.iconst 1, 1) := dget zdX3_cameTo_0 9 rfl
theorem dX3_cameTo_19 : decode cX3_cameTo 19 = .ok (.goto 4, 3) := dget zdX3_cameTo_0 10 rfl
theorem dX3_cameTo_22 : decode cX3_cameTo 22 = .ok (.iconst 0, 1) := dget zdX3_cameTo_0 11 rfl
theorem dX3_cameTo_23 : decode cX3_cameTo 23 = .ok (.ireturn, 1) := dget zdX3_cameTo_0 12 rfl
theorem zdX3_cellIn_0 : dchk cX3_cellIn [(0, .aload_n 0, 1), (1, .iload_n 1, 1), (2, .invokevirtual 53, 3), (5, .ifCond .eq 12, 3), (8, .aload_n 0, 1), (9, .getfield 9, 3), (12, .iload_n 1, 1), (13, .iaload, 1), (14, .goto 5, 3), (17, .bipush (-4), 2), (19, .ireturn, 1)] = true := by decide +kernel
theorem dX3_cellIn_0 : decode cX3_cellIn 0 = .ok (.aload_n 0, 1) := dget zdX3_cellIn_0 0 rfl
theorem dX3_cellIn_1 : decode cX3_cellIn 1 = .ok (.iload_n 1, 1) := dget zdX3_cellIn_0 1 rfl
theorem dX3_cellIn_2 : decode cX3_cellIn 2 = .ok (.invokevirtual 53, 3) := dget zdX3_cellIn_0 2 rfl
theorem dX3_cellIn_5 : decode cX3_cellIn 5 = .ok (.ifCond .eq 12, 3) := dget zdX3_cellIn_0 3 rfl
theorem dX3_cellIn_8 : decode cX3_cellIn 8 = .ok (.aload_n 0, 1) := dget zdX3_cellIn_0 4 rfl
theorem dX3_cellIn_9 : decode cX3_cellIn 9 = .ok (.getfield 9, 3) := dget zdX3_cellIn_0 5 rfl
theorem dX3_cellIn_12 : decode cX3_cellIn 12 = .ok (.iload_n 1, 1) := dget zdX3_cellIn_0 6 rfl
theorem dX3_cellIn_13 : decode cX3_cellIn 13 = .ok (.iaload, 1) := dget zdX3_cellIn_0 7 rfl
theorem dX3_cellIn_14 : decode cX3_cellIn 14 = .ok (.goto 5, 3) := dget zdX3_cellIn_0 8 rfl
theorem dX3_cellIn_17 : decode cX3_cellIn 17 = .ok (.bipush (-4), 2) := dget zdX3_cellIn_0 9 rfl
theorem dX3_cellIn_19 : decode cX3_cellIn 19 = .ok (.ireturn, 1) := dget zdX3_cellIn_0 10 rfl
theorem zdX3_speedBehind_0 : dchk cX3_speedBehind [(0, .aload_n 0, 1), (1, .iload_n 1, 1), (2, .invokevirtual 53, 3), (5, .ifCond .eq 12, 3), (8, .aload_n 0, 1), (9, .getfield 15, 3), (12, .iload_n 1, 1), (13, .iaload, 1), (14, .goto 5, 3), (17, .bipush (-4), 2), (19, .ireturn, 1)] = true := by decide +kernel
theorem dX3_speedBehind_0 : decode cX3_speedBehind 0 = .ok (.aload_n 0, 1) := dget zdX3_speedBehind_0 0 rfl
theorem dX3_speedBehind_1 : decode cX3_speedBehind 1 = .ok (.iload_n 1, 1) := dget zdX3_speedBehind_0 1 rfl
theorem dX3_speedBehind_2 : decode cX3_speedBehind 2 = .ok (.invokevirtual 53, 3) := dget zdX3_speedBehind_0 2 rfl
theorem dX3_speedBehind_5 : decode cX3_speedBehind 5 = .ok (.ifCond .eq 12, 3) := dget zdX3_speedBehind_0 3 rfl
theorem dX3_speedBehind_8 : decode cX3_speedBehind 8 = .ok (.aload_n 0, 1) := dget zdX3_speedBehind_0 4 rfl
theorem dX3_speedBehind_9 : decode cX3_speedBehind 9 = .ok (.getfield 15, 3) := dget zdX3_speedBehind_0 5 rfl
theorem dX3_speedBehind_12 : decode cX3_speedBehind 12 = .ok (.iload_n 1, 1) := dget zdX3_speedBehind_0 6 rfl
theorem dX3_speedBehind_13 : decode cX3_speedBehind 13 = .ok (.iaload, 1) := dget zdX3_speedBehind_0 7 rfl
theorem dX3_speedBehind_14 : decode cX3_speedBehind 14 = .ok (.goto 5, 3) := dget zdX3_speedBehind_0 8 rfl
theorem dX3_speedBehind_17 : decode cX3_speedBehind 17 = .ok (.bipush (-4), 2) := dget zdX3_speedBehind_0 9 rfl
theorem dX3_speedBehind_19 : decode cX3_speedBehind 19 = .ok (.ireturn, 1) := dget zdX3_speedBehind_0 10 rfl
theorem zdX3_takeFor_0 : dchk cX3_takeFor [(0, .iconst 0, 1), (1, .istore_n 3, 1), (2, .iload_n 3, 1), (3, .aload_n 0, 1), (4, .getfield 18, 3), (7, .if_icmp .ge 19, 3), (10, .aload_n 1, 1), (11, .aload_n 0, 1), (12, .iload_n 3, 1), (13, .invokevirtual 56, 3), (16, .iload_n 2, 1), (17, .invokevirtual 59, 3), (20, .iinc 3 1, 3), (23, .goto (-21), 3), (26, .return_, 1)] = true := by decide +kernel
theorem dX3_takeFor_0 : decode cX3_takeFor 0 = .ok (.iconst 0, 1) := dget zdX3_takeFor_0 0 rfl
theorem dX3_takeFor_1 : decode cX3_takeFor 1 = .ok (.istore_n 3, 1) := dget zdX3_takeFor_0 1 rfl
theorem dX3_takeFor_2 : decode cX3_takeFor 2 = .ok (.iload_n 3, 1) := dget zdX3_takeFor_0 2 rfl
theorem dX3_takeFor_3 : decode cX3_takeFor 3 = .ok (.aload_n 0, 1) := dget zdX3_takeFor_0 3 rfl
theorem dX3_takeFor_4 : decode cX3_takeFor 4 = .ok (.getfield 18, 3) := dget zdX3_takeFor_0 4 rfl
theorem dX3_takeFor_7 : decode cX3_takeFor 7 = .ok (.if_icmp .ge 19, 3) := dget zdX3_takeFor_0 5 rfl
theorem dX3_takeFor_10 : decode cX3_takeFor 10 = .ok (.aload_n 1, 1) := dget zdX3_takeFor_0 6 rfl
theorem dX3_takeFor_11 : decode cX3_takeFor 11 = .ok (.aload_n 0, 1) := dget zdX3_takeFor_0 7 rfl
theorem dX3_takeFor_12 : decode cX3_takeFor 12 = .ok (.iload_n 3, 1) := dget zdX3_takeFor_0 8 rfl
theorem dX3_takeFor_13 : decode cX3_takeFor 13 = .ok (.invokevirtual 56, 3) := dget zdX3_takeFor_0 9 rfl
theorem dX3_takeFor_16 : decode cX3_takeFor 16 = .ok (.iload_n 2, 1) := dget zdX3_takeFor_0 10 rfl
theorem dX3_takeFor_17 : decode cX3_takeFor 17 = .ok (.invokevirtual 59, 3) := dget zdX3_takeFor_0 11 rfl
theorem dX3_takeFor_20 : decode cX3_takeFor 20 = .ok (.iinc 3 1, 3) := dget zdX3_takeFor_0 12 rfl
theorem dX3_takeFor_23 : decode cX3_takeFor 23 = .ok (.goto (-21), 3) := dget zdX3_takeFor_0 13 rfl
theorem dX3_takeFor_26 : decode cX3_takeFor 26 = .ok (.return_, 1) := dget zdX3_takeFor_0 14 rfl
theorem zdX3_cellsThatAre_0 : dchk cX3_cellsThatAre [(0, .iconst 0, 1), (1, .istore 4, 2), (3, .iconst 0, 1), (4, .istore 5, 2), (6, .iload 5, 2), (8, .aload_n 0, 1), (9, .getfield 18, 3), (12, .if_icmp .ge 35, 3), (15, .aload_n 1, 1), (16, .aload_n 0, 1), (17, .iload 5, 2), (19, .invokevirtual 56, 3), (22, .invokevirtual 63, 3), (25, .iload_n 2, 1), (26, .if_icmp .ne 7, 3), (29, .iconst 1, 1), (30, .goto 4, 3), (33, .iconst 0, 1), (34, .iload_n 3, 1), (35, .if_icmp .ne 6, 3), (38, .iinc 4 1, 3), (41, .iinc 5 1, 3), (44, .goto (-38), 3), (47, .iload 4, 2), (49, .ireturn, 1)] = true := by decide +kernel
theorem dX3_cellsThatAre_0 : decode cX3_cellsThatAre 0 = .ok (.iconst 0, 1) := dget zdX3_cellsThatAre_0 0 rfl
theorem dX3_cellsThatAre_1 : decode cX3_cellsThatAre 1 = .ok (.istore 4, 2) := dget zdX3_cellsThatAre_0 1 rfl
theorem dX3_cellsThatAre_3 : decode cX3_cellsThatAre 3 = .ok (.iconst 0, 1) := dget zdX3_cellsThatAre_0 2 rfl
theorem dX3_cellsThatAre_4 : decode cX3_cellsThatAre 4 = .ok (.istore 5, 2) := dget zdX3_cellsThatAre_0 3 rfl
theorem dX3_cellsThatAre_6 : decode cX3_cellsThatAre 6 = .ok (.iload 5, 2) := dget zdX3_cellsThatAre_0 4 rfl
theorem dX3_cellsThatAre_8 : decode cX3_cellsThatAre 8 = .ok (.aload_n 0, 1) := dget zdX3_cellsThatAre_0 5 rfl
theorem dX3_cellsThatAre_9 : decode cX3_cellsThatAre 9 = .ok (.getfield 18, 3) := dget zdX3_cellsThatAre_0 6 rfl
theorem dX3_cellsThatAre_12 : decode cX3_cellsThatAre 12 = .ok (.if_icmp .ge 35, 3) := dget zdX3_cellsThatAre_0 7 rfl
theorem dX3_cellsThatAre_15 : decode cX3_cellsThatAre 15 = .ok (.aload_n 1, 1) := dget zdX3_cellsThatAre_0 8 rfl
theorem dX3_cellsThatAre_16 : decode cX3_cellsThatAre 16 = .ok (.aload_n 0, 1) := dget zdX3_cellsThatAre_0 9 rfl
theorem dX3_cellsThatAre_17 : decode cX3_cellsThatAre 17 = .ok (.iload 5, 2) := dget zdX3_cellsThatAre_0 10 rfl
theorem dX3_cellsThatAre_19 : decode cX3_cellsThatAre 19 = .ok (.invokevirtual 56, 3) := dget zdX3_cellsThatAre_0 11 rfl
theorem dX3_cellsThatAre_22 : decode cX3_cellsThatAre 22 = .ok (.invokevirtual 63, 3) := dget zdX3_cellsThatAre_0 12 rfl
theorem dX3_cellsThatAre_25 : decode cX3_cellsThatAre 25 = .ok (.iload_n 2, 1) := dget zdX3_cellsThatAre_0 13 rfl
theorem dX3_cellsThatAre_26 : decode cX3_cellsThatAre 26 = .ok (.if_icmp .ne 7, 3) := dget zdX3_cellsThatAre_0 14 rfl
theorem dX3_cellsThatAre_29 : decode cX3_cellsThatAre 29 = .ok (.iconst 1, 1) := dget zdX3_cellsThatAre_0 15 rfl
theorem dX3_cellsThatAre_30 : decode cX3_cellsThatAre 30 = .ok (.goto 4, 3) := dget zdX3_cellsThatAre_0 16 rfl
theorem dX3_cellsThatAre_33 : decode cX3_cellsThatAre 33 = .ok (.iconst 0, 1) := dget zdX3_cellsThatAre_0 17 rfl
theorem dX3_cellsThatAre_34 : decode cX3_cellsThatAre 34 = .ok (.iload_n 3, 1) := dget zdX3_cellsThatAre_0 18 rfl
theorem dX3_cellsThatAre_35 : decode cX3_cellsThatAre 35 = .ok (.if_icmp .ne 6, 3) := dget zdX3_cellsThatAre_0 19 rfl
theorem dX3_cellsThatAre_38 : decode cX3_cellsThatAre 38 = .ok (.iinc 4 1, 3) := dget zdX3_cellsThatAre_0 20 rfl
theorem dX3_cellsThatAre_41 : decode cX3_cellsThatAre 41 = .ok (.iinc 5 1, 3) := dget zdX3_cellsThatAre_0 21 rfl
theorem dX3_cellsThatAre_44 : decode cX3_cellsThatAre 44 = .ok (.goto (-38), 3) := dget zdX3_cellsThatAre_0 22 rfl
theorem dX3_cellsThatAre_47 : decode cX3_cellsThatAre 47 = .ok (.iload 4, 2) := dget zdX3_cellsThatAre_0 23 rfl
theorem dX3_cellsThatAre_49 : decode cX3_cellsThatAre 49 = .ok (.ireturn, 1) := dget zdX3_cellsThatAre_0 24 rfl
theorem zdX4_init_0 : dchk cX4_init [(0, .aload_n 0, 1), (1, .invokespecial 3, 3), (4, .aload_n 0, 1), (5, .bipush (-4), 2), (7, .putfield 9, 3), (10, .aload_n 0, 1), (11, .iconst 0, 1), (12, .putfield 15, 3), (15, .return_, 1)] = true := by decide +kernel
theorem dX4_init_0 : decode cX4_init 0 = .ok (.aload_n 0, 1) := dget zdX4_init_0 0 rfl
theorem dX4_init_1 : decode cX4_init 1 = .ok (.invokespecial 3, 3) := dget zdX4_init_0 1 rfl
theorem dX4_init_4 : decode cX4_init 4 = .ok (.aload_n 0, 1) := dget zdX4_init_0 2 rfl
theorem dX4_init_5 : decode cX4_init 5 = .ok (.bipush (-4), 2) := dget zdX4_init_0 3 rfl
theorem dX4_init_7 : decode cX4_init 7 = .ok (.putfield 9, 3) := dget zdX4_init_0 4 rfl
theorem dX4_init_10 : decode cX4_init 10 = .ok (.aload_n 0, 1) := dget zdX4_init_0 5 rfl
theorem dX4_init_11 : decode cX4_init 11 = .ok (.iconst 0, 1) := dget zdX4_init_0 6 rfl
theorem dX4_init_12 : decode cX4_init 12 = .ok (.putfield 15, 3) := dget zdX4_init_0 7 rfl
theorem dX4_init_15 : decode cX4_init 15 = .ok (.return_, 1) := dget zdX4_init_0 8 rfl
theorem zdX4_firstThatStops_0 : dchk cX4_firstThatStops [(0, .iconst 0, 1), (1, .istore 4, 2), (3, .iload 4, 2), (5, .aload_n 1, 1), (6, .getfield 18, 3), (9, .if_icmp .ge 97, 3), (12, .iconst 1, 1), (13, .istore 5, 2), (15, .iload 5, 2), (17, .bipush 20, 2), (19, .if_icmp .gt 81, 3), (22, .aload_n 2, 1), (23, .aload_n 1, 1), (24, .iload 4, 2), (26, .iload 5, 2), (28, .iconst 0, 1), (29, .invokevirtual 23, 3), (32, .aload_n 2, 1), (33, .getfield 29, 3), (36, .istore 6, 2), (38, .iconst 0, 1), (39, .istore 7, 2), (41, .iload 7, 2), (43, .iconst 2, 1), (44, .iload 6, 2), (46, .imul, 1), (47, .if_icmp .gt 47, 3), (50, .iload 7, 2), (52, .iload 6, 2), (54, .invokestatic 32, 3), (57, .istore 8, 2), (59, .aload_n 2, 1), (60, .aload_n 1, 1), (61, .iload 4, 2), (63, .iload 5, 2), (65, .iload 8, 2), (67, .invokevirtual 23, 3), (70, .aload_n 2, 1), (71, .getfield 36, 3), (74, .iload_n 3, 1), (75, .if_icmp .ne 13, 3), (78, .iload 4, 2), (80, .iload 5, 2), (82, .iload 8, 2), (84, .invokestatic 39, 3), (87, .ireturn, 1), (88, .iinc 7 1, 3), (91, .goto (-50), 3), (94, .iinc 5 1, 3), (97, .goto (-82), 3), (100, .iinc 4 1, 3), (103, .goto (-100), 3), (106, .bipush (-4), 2), (108, .ireturn, 1)] = true := by decide +kernel
theorem dX4_firstThatStops_0 : decode cX4_firstThatStops 0 = .ok (.iconst 0, 1) := dget zdX4_firstThatStops_0 0 rfl
theorem dX4_firstThatStops_1 : decode cX4_firstThatStops 1 = .ok (.istore 4, 2) := dget zdX4_firstThatStops_0 1 rfl
theorem dX4_firstThatStops_3 : decode cX4_firstThatStops 3 = .ok (.iload 4, 2) := dget zdX4_firstThatStops_0 2 rfl
theorem dX4_firstThatStops_5 : decode cX4_firstThatStops 5 = .ok (.aload_n 1, 1) := dget zdX4_firstThatStops_0 3 rfl
theorem dX4_firstThatStops_6 : decode cX4_firstThatStops 6 = .ok (.getfield 18, 3) := dget zdX4_firstThatStops_0 4 rfl
theorem dX4_firstThatStops_9 : decode cX4_firstThatStops 9 = .ok (.if_icmp .ge 97, 3) := dget zdX4_firstThatStops_0 5 rfl
theorem dX4_firstThatStops_12 : decode cX4_firstThatStops 12 = .ok (.iconst 1, 1) := dget zdX4_firstThatStops_0 6 rfl
theorem dX4_firstThatStops_13 : decode cX4_firstThatStops 13 = .ok (.istore 5, 2) := dget zdX4_firstThatStops_0 7 rfl
theorem dX4_firstThatStops_15 : decode cX4_firstThatStops 15 = .ok (.iload 5, 2) := dget zdX4_firstThatStops_0 8 rfl
theorem dX4_firstThatStops_17 : decode cX4_firstThatStops 17 = .ok (.bipush 20, 2) := dget zdX4_firstThatStops_0 9 rfl
theorem dX4_firstThatStops_19 : decode cX4_firstThatStops 19 = .ok (.if_icmp .gt 81, 3) := dget zdX4_firstThatStops_0 10 rfl
theorem dX4_firstThatStops_22 : decode cX4_firstThatStops 22 = .ok (.aload_n 2, 1) := dget zdX4_firstThatStops_0 11 rfl
theorem dX4_firstThatStops_23 : decode cX4_firstThatStops 23 = .ok (.aload_n 1, 1) := dget zdX4_firstThatStops_0 12 rfl
theorem dX4_firstThatStops_24 : decode cX4_firstThatStops 24 = .ok (.iload 4, 2) := dget zdX4_firstThatStops_0 13 rfl
theorem dX4_firstThatStops_26 : decode cX4_firstThatStops 26 = .ok (.iload 5, 2) := dget zdX4_firstThatStops_0 14 rfl
theorem dX4_firstThatStops_28 : decode cX4_firstThatStops 28 = .ok (.iconst 0, 1) := dget zdX4_firstThatStops_0 15 rfl
theorem dX4_firstThatStops_29 : decode cX4_firstThatStops 29 = .ok (.invokevirtual 23, 3) := dget zdX4_firstThatStops_0 16 rfl
theorem dX4_firstThatStops_32 : decode cX4_firstThatStops 32 = .ok (.aload_n 2, 1) := dget zdX4_firstThatStops_0 17 rfl
theorem dX4_firstThatStops_33 : decode cX4_firstThatStops 33 = .ok (.getfield 29, 3) := dget zdX4_firstThatStops_0 18 rfl
theorem dX4_firstThatStops_36 : decode cX4_firstThatStops 36 = .ok (.istore 6, 2) := dget zdX4_firstThatStops_0 19 rfl
theorem dX4_firstThatStops_38 : decode cX4_firstThatStops 38 = .ok (.iconst 0, 1) := dget zdX4_firstThatStops_0 20 rfl
theorem dX4_firstThatStops_39 : decode cX4_firstThatStops 39 = .ok (.istore 7, 2) := dget zdX4_firstThatStops_0 21 rfl
theorem dX4_firstThatStops_41 : decode cX4_firstThatStops 41 = .ok (.iload 7, 2) := dget zdX4_firstThatStops_0 22 rfl
theorem dX4_firstThatStops_43 : decode cX4_firstThatStops 43 = .ok (.iconst 2, 1) := dget zdX4_firstThatStops_0 23 rfl
theorem dX4_firstThatStops_44 : decode cX4_firstThatStops 44 = .ok (.iload 6, 2) := dget zdX4_firstThatStops_0 24 rfl
theorem dX4_firstThatStops_46 : decode cX4_firstThatStops 46 = .ok (.imul, 1) := dget zdX4_firstThatStops_0 25 rfl
theorem dX4_firstThatStops_47 : decode cX4_firstThatStops 47 = .ok (.if_icmp .gt 47, 3) := dget zdX4_firstThatStops_0 26 rfl
theorem dX4_firstThatStops_50 : decode cX4_firstThatStops 50 = .ok (.iload 7, 2) := dget zdX4_firstThatStops_0 27 rfl
theorem dX4_firstThatStops_52 : decode cX4_firstThatStops 52 = .ok (.iload 6, 2) := dget zdX4_firstThatStops_0 28 rfl
theorem dX4_firstThatStops_54 : decode cX4_firstThatStops 54 = .ok (.invokestatic 32, 3) := dget zdX4_firstThatStops_0 29 rfl
theorem dX4_firstThatStops_57 : decode cX4_firstThatStops 57 = .ok (.istore 8, 2) := dget zdX4_firstThatStops_0 30 rfl
theorem dX4_firstThatStops_59 : decode cX4_firstThatStops 59 = .ok (.aload_n 2, 1) := dget zdX4_firstThatStops_0 31 rfl
theorem dX4_firstThatStops_60 : decode cX4_firstThatStops 60 = .ok (.aload_n 1, 1) := dget zdX4_firstThatStops_0 32 rfl
theorem dX4_firstThatStops_61 : decode cX4_firstThatStops 61 = .ok (.iload 4, 2) := dget zdX4_firstThatStops_0 33 rfl
theorem dX4_firstThatStops_63 : decode cX4_firstThatStops 63 = .ok (.iload 5, 2) := dget zdX4_firstThatStops_0 34 rfl
theorem dX4_firstThatStops_65 : decode cX4_firstThatStops 65 = .ok (.iload 8, 2) := dget zdX4_firstThatStops_0 35 rfl
theorem dX4_firstThatStops_67 : decode cX4_firstThatStops 67 = .ok (.invokevirtual 23, 3) := dget zdX4_firstThatStops_0 36 rfl
theorem dX4_firstThatStops_70 : decode cX4_firstThatStops 70 = .ok (.aload_n 2, 1) := dget zdX4_firstThatStops_0 37 rfl
theorem dX4_firstThatStops_71 : decode cX4_firstThatStops 71 = .ok (.getfield 36, 3) := dget zdX4_firstThatStops_0 38 rfl
theorem dX4_firstThatStops_74 : decode cX4_firstThatStops 74 = .ok (.iload_n 3, 1) := dget zdX4_firstThatStops_0 39 rfl
theorem dX4_firstThatStops_75 : decode cX4_firstThatStops 75 = .ok (.if_icmp .ne 13, 3) := dget zdX4_firstThatStops_0 40 rfl
theorem dX4_firstThatStops_78 : decode cX4_firstThatStops 78 = .ok (.iload 4, 2) := dget zdX4_firstThatStops_0 41 rfl
theorem dX4_firstThatStops_80 : decode cX4_firstThatStops 80 = .ok (.iload 5, 2) := dget zdX4_firstThatStops_0 42 rfl
theorem dX4_firstThatStops_82 : decode cX4_firstThatStops 82 = .ok (.iload 8, 2) := dget zdX4_firstThatStops_0 43 rfl
theorem dX4_firstThatStops_84 : decode cX4_firstThatStops 84 = .ok (.invokestatic 39, 3) := dget zdX4_firstThatStops_0 44 rfl
theorem dX4_firstThatStops_87 : decode cX4_firstThatStops 87 = .ok (.ireturn, 1) := dget zdX4_firstThatStops_0 45 rfl
theorem dX4_firstThatStops_88 : decode cX4_firstThatStops 88 = .ok (.iinc 7 1, 3) := dget zdX4_firstThatStops_0 46 rfl
theorem dX4_firstThatStops_91 : decode cX4_firstThatStops 91 = .ok (.goto (-50), 3) := dget zdX4_firstThatStops_0 47 rfl
theorem dX4_firstThatStops_94 : decode cX4_firstThatStops 94 = .ok (.iinc 5 1, 3) := dget zdX4_firstThatStops_0 48 rfl
theorem dX4_firstThatStops_97 : decode cX4_firstThatStops 97 = .ok (.goto (-82), 3) := dget zdX4_firstThatStops_0 49 rfl
theorem dX4_firstThatStops_100 : decode cX4_firstThatStops 100 = .ok (.iinc 4 1, 3) := dget zdX4_firstThatStops_0 50 rfl
theorem dX4_firstThatStops_103 : decode cX4_firstThatStops 103 = .ok (.goto (-100), 3) := dget zdX4_firstThatStops_0 51 rfl
theorem dX4_firstThatStops_106 : decode cX4_firstThatStops 106 = .ok (.bipush (-4), 2) := dget zdX4_firstThatStops_0 52 rfl
theorem dX4_firstThatStops_108 : decode cX4_firstThatStops 108 = .ok (.ireturn, 1) := dget zdX4_firstThatStops_0 53 rfl
theorem zdX4_findMostTaken_0 : dchk cX4_findMostTaken [(0, .aload_n 0, 1), (1, .bipush (-4), 2), (3, .putfield 9, 3), (6, .aload_n 0, 1), (7, .bipush (-4), 2), (9, .putfield 15, 3), (12, .iconst 0, 1), (13, .istore 5, 2), (15, .iload 5, 2), (17, .aload_n 1, 1), (18, .getfield 18, 3), (21, .if_icmp .ge 117, 3), (24, .iconst 1, 1), (25, .istore 6, 2), (27, .iload 6, 2), (29, .bipush 20, 2), (31, .if_icmp .gt 101, 3), (34, .aload_n 2, 1), (35, .aload_n 1, 1), (36, .iload 5, 2), (38, .iload 6, 2), (40, .iconst 0, 1), (41, .invokevirtual 23, 3), (44, .aload_n 2, 1), (45, .getfield 29, 3), (48, .istore 7, 2), (50, .iconst 0, 1), (51, .istore 8, 2), (53, .iload 8, 2), (55, .iconst 2, 1), (56, .iload 7, 2), (58, .imul, 1), (59, .if_icmp .gt 67, 3), (62, .iload 8, 2), (64, .iload 7, 2), (66, .invokestatic 32, 3), (69, .istore 9, 2), (71, .aload_n 2, 1), (72, .aload_n 1, 1), (73, .iload 5, 2), (75, .iload 6, 2), (77, .iload 9, 2), (79, .invokevirtual 23, 3), (82, .aload_n 2, 1), (83, .aload_n 1, 1), (84, .iload_n 3, 1), (85, .iload 4, 2), (87, .invokevirtual 43, 3), (90, .istore 10, 2), (92, .iload 10, 2), (94, .aload_n 0, 1), (95, .getfield 15, 3), (98, .if_icmp .le 22, 3), (101, .aload_n 0, 1), (102, .iload 10, 2), (104, .putfield 15, 3), (107, .aload_n 0, 1), (108, .iload 5, 2), (110, .iload 6, 2), (112, .iload 9, 2), (114, .invokestatic 39, 3), (117, .putfield 9, 3), (120, .iinc 8 1, 3), (123, .goto (-70), 3), (126, .iinc 6 1, 3), (129, .goto (-102), 3), (132, .iinc 5 1, 3), (135, .goto (-120), 3), (138, .return_, 1)] = true := by decide +kernel
theorem dX4_findMostTaken_0 : decode cX4_findMostTaken 0 = .ok (.aload_n 0, 1) := dget zdX4_findMostTaken_0 0 rfl
theorem dX4_findMostTaken_1 : decode cX4_findMostTaken 1 = .ok (.bipush (-4), 2) := dget zdX4_findMostTaken_0 1 rfl
theorem dX4_findMostTaken_3 : decode cX4_findMostTaken 3 = .ok (.putfield 9, 3) := dget zdX4_findMostTaken_0 2 rfl
theorem dX4_findMostTaken_6 : decode cX4_findMostTaken 6 = .ok (.aload_n 0, 1) := dget zdX4_findMostTaken_0 3 rfl
theorem dX4_findMostTaken_7 : decode cX4_findMostTaken 7 = .ok (.bipush (-4), 2) := dget zdX4_findMostTaken_0 4 rfl
theorem dX4_findMostTaken_9 : decode cX4_findMostTaken 9 = .ok (.putfield 15, 3) := dget zdX4_findMostTaken_0 5 rfl
theorem dX4_findMostTaken_12 : decode cX4_findMostTaken 12 = .ok (.iconst 0, 1) := dget zdX4_findMostTaken_0 6 rfl
theorem dX4_findMostTaken_13 : decode cX4_findMostTaken 13 = .ok (.istore 5, 2) := dget zdX4_findMostTaken_0 7 rfl
theorem dX4_findMostTaken_15 : decode cX4_findMostTaken 15 = .ok (.iload 5, 2) := dget zdX4_findMostTaken_0 8 rfl
theorem dX4_findMostTaken_17 : decode cX4_findMostTaken 17 = .ok (.aload_n 1, 1) := dget zdX4_findMostTaken_0 9 rfl
theorem dX4_findMostTaken_18 : decode cX4_findMostTaken 18 = .ok (.getfield 18, 3) := dget zdX4_findMostTaken_0 10 rfl
theorem dX4_findMostTaken_21 : decode cX4_findMostTaken 21 = .ok (.if_icmp .ge 117, 3) := dget zdX4_findMostTaken_0 11 rfl
theorem dX4_findMostTaken_24 : decode cX4_findMostTaken 24 = .ok (.iconst 1, 1) := dget zdX4_findMostTaken_0 12 rfl
theorem dX4_findMostTaken_25 : decode cX4_findMostTaken 25 = .ok (.istore 6, 2) := dget zdX4_findMostTaken_0 13 rfl
theorem dX4_findMostTaken_27 : decode cX4_findMostTaken 27 = .ok (.iload 6, 2) := dget zdX4_findMostTaken_0 14 rfl
theorem dX4_findMostTaken_29 : decode cX4_findMostTaken 29 = .ok (.bipush 20, 2) := dget zdX4_findMostTaken_0 15 rfl
theorem dX4_findMostTaken_31 : decode cX4_findMostTaken 31 = .ok (.if_icmp .gt 101, 3) := dget zdX4_findMostTaken_0 16 rfl
theorem dX4_findMostTaken_34 : decode cX4_findMostTaken 34 = .ok (.aload_n 2, 1) := dget zdX4_findMostTaken_0 17 rfl
theorem dX4_findMostTaken_35 : decode cX4_findMostTaken 35 = .ok (.aload_n 1, 1) := dget zdX4_findMostTaken_0 18 rfl
theorem dX4_findMostTaken_36 : decode cX4_findMostTaken 36 = .ok (.iload 5, 2) := dget zdX4_findMostTaken_0 19 rfl
theorem dX4_findMostTaken_38 : decode cX4_findMostTaken 38 = .ok (.iload 6, 2) := dget zdX4_findMostTaken_0 20 rfl
theorem dX4_findMostTaken_40 : decode cX4_findMostTaken 40 = .ok (.iconst 0, 1) := dget zdX4_findMostTaken_0 21 rfl
theorem dX4_findMostTaken_41 : decode cX4_findMostTaken 41 = .ok (.invokevirtual 23, 3) := dget zdX4_findMostTaken_0 22 rfl
theorem dX4_findMostTaken_44 : decode cX4_findMostTaken 44 = .ok (.aload_n 2, 1) := dget zdX4_findMostTaken_0 23 rfl
theorem dX4_findMostTaken_45 : decode cX4_findMostTaken 45 = .ok (.getfield 29, 3) := dget zdX4_findMostTaken_0 24 rfl
theorem dX4_findMostTaken_48 : decode cX4_findMostTaken 48 = .ok (.istore 7, 2) := dget zdX4_findMostTaken_0 25 rfl
theorem dX4_findMostTaken_50 : decode cX4_findMostTaken 50 = .ok (.iconst 0, 1) := dget zdX4_findMostTaken_0 26 rfl
theorem dX4_findMostTaken_51 : decode cX4_findMostTaken 51 = .ok (.istore 8, 2) := dget zdX4_findMostTaken_0 27 rfl
theorem dX4_findMostTaken_53 : decode cX4_findMostTaken 53 = .ok (.iload 8, 2) := dget zdX4_findMostTaken_0 28 rfl
theorem dX4_findMostTaken_55 : decode cX4_findMostTaken 55 = .ok (.iconst 2, 1) := dget zdX4_findMostTaken_0 29 rfl
theorem dX4_findMostTaken_56 : decode cX4_findMostTaken 56 = .ok (.iload 7, 2) := dget zdX4_findMostTaken_0 30 rfl
theorem dX4_findMostTaken_58 : decode cX4_findMostTaken 58 = .ok (.imul, 1) := dget zdX4_findMostTaken_0 31 rfl
theorem dX4_findMostTaken_59 : decode cX4_findMostTaken 59 = .ok (.if_icmp .gt 67, 3) := dget zdX4_findMostTaken_0 32 rfl
theorem dX4_findMostTaken_62 : decode cX4_findMostTaken 62 = .ok (.iload 8, 2) := dget zdX4_findMostTaken_0 33 rfl
theorem dX4_findMostTaken_64 : decode cX4_findMostTaken 64 = .ok (.iload 7, 2) := dget zdX4_findMostTaken_0 34 rfl
theorem dX4_findMostTaken_66 : decode cX4_findMostTaken 66 = .ok (.invokestatic 32, 3) := dget zdX4_findMostTaken_0 35 rfl
theorem dX4_findMostTaken_69 : decode cX4_findMostTaken 69 = .ok (.istore 9, 2) := dget zdX4_findMostTaken_0 36 rfl
theorem dX4_findMostTaken_71 : decode cX4_findMostTaken 71 = .ok (.aload_n 2, 1) := dget zdX4_findMostTaken_0 37 rfl
theorem dX4_findMostTaken_72 : decode cX4_findMostTaken 72 = .ok (.aload_n 1, 1) := dget zdX4_findMostTaken_0 38 rfl
theorem dX4_findMostTaken_73 : decode cX4_findMostTaken 73 = .ok (.iload 5, 2) := dget zdX4_findMostTaken_0 39 rfl
theorem dX4_findMostTaken_75 : decode cX4_findMostTaken 75 = .ok (.iload 6, 2) := dget zdX4_findMostTaken_0 40 rfl
theorem dX4_findMostTaken_77 : decode cX4_findMostTaken 77 = .ok (.iload 9, 2) := dget zdX4_findMostTaken_0 41 rfl
theorem dX4_findMostTaken_79 : decode cX4_findMostTaken 79 = .ok (.invokevirtual 23, 3) := dget zdX4_findMostTaken_0 42 rfl
theorem dX4_findMostTaken_82 : decode cX4_findMostTaken 82 = .ok (.aload_n 2, 1) := dget zdX4_findMostTaken_0 43 rfl
theorem dX4_findMostTaken_83 : decode cX4_findMostTaken 83 = .ok (.aload_n 1, 1) := dget zdX4_findMostTaken_0 44 rfl
theorem dX4_findMostTaken_84 : decode cX4_findMostTaken 84 = .ok (.iload_n 3, 1) := dget zdX4_findMostTaken_0 45 rfl
theorem dX4_findMostTaken_85 : decode cX4_findMostTaken 85 = .ok (.iload 4, 2) := dget zdX4_findMostTaken_0 46 rfl
theorem dX4_findMostTaken_87 : decode cX4_findMostTaken 87 = .ok (.invokevirtual 43, 3) := dget zdX4_findMostTaken_0 47 rfl
theorem dX4_findMostTaken_90 : decode cX4_findMostTaken 90 = .ok (.istore 10, 2) := dget zdX4_findMostTaken_0 48 rfl
theorem dX4_findMostTaken_92 : decode cX4_findMostTaken 92 = .ok (.iload 10, 2) := dget zdX4_findMostTaken_0 49 rfl
theorem dX4_findMostTaken_94 : decode cX4_findMostTaken 94 = .ok (.aload_n 0, 1) := dget zdX4_findMostTaken_0 50 rfl
theorem dX4_findMostTaken_95 : decode cX4_findMostTaken 95 = .ok (.getfield 15, 3) := dget zdX4_findMostTaken_0 51 rfl
theorem dX4_findMostTaken_98 : decode cX4_findMostTaken 98 = .ok (.if_icmp .le 22, 3) := dget zdX4_findMostTaken_0 52 rfl
theorem dX4_findMostTaken_101 : decode cX4_findMostTaken 101 = .ok (.aload_n 0, 1) := dget zdX4_findMostTaken_0 53 rfl
theorem dX4_findMostTaken_102 : decode cX4_findMostTaken 102 = .ok (.iload 10, 2) := dget zdX4_findMostTaken_0 54 rfl
theorem dX4_findMostTaken_104 : decode cX4_findMostTaken 104 = .ok (.putfield 15, 3) := dget zdX4_findMostTaken_0 55 rfl
theorem dX4_findMostTaken_107 : decode cX4_findMostTaken 107 = .ok (.aload_n 0, 1) := dget zdX4_findMostTaken_0 56 rfl
theorem dX4_findMostTaken_108 : decode cX4_findMostTaken 108 = .ok (.iload 5, 2) := dget zdX4_findMostTaken_0 57 rfl
theorem dX4_findMostTaken_110 : decode cX4_findMostTaken 110 = .ok (.iload 6, 2) := dget zdX4_findMostTaken_0 58 rfl
theorem dX4_findMostTaken_112 : decode cX4_findMostTaken 112 = .ok (.iload 9, 2) := dget zdX4_findMostTaken_0 59 rfl
theorem dX4_findMostTaken_114 : decode cX4_findMostTaken 114 = .ok (.invokestatic 39, 3) := dget zdX4_findMostTaken_0 60 rfl
theorem dX4_findMostTaken_117 : decode cX4_findMostTaken 117 = .ok (.putfield 9, 3) := dget zdX4_findMostTaken_0 61 rfl
theorem dX4_findMostTaken_120 : decode cX4_findMostTaken 120 = .ok (.iinc 8 1, 3) := dget zdX4_findMostTaken_0 62 rfl
theorem dX4_findMostTaken_123 : decode cX4_findMostTaken 123 = .ok (.goto (-70), 3) := dget zdX4_findMostTaken_0 63 rfl
theorem dX4_findMostTaken_126 : decode cX4_findMostTaken 126 = .ok (.iinc 6 1, 3) := dget zdX4_findMostTaken_0 64 rfl
theorem dX4_findMostTaken_129 : decode cX4_findMostTaken 129 = .ok (.goto (-102), 3) := dget zdX4_findMostTaken_0 65 rfl
theorem dX4_findMostTaken_132 : decode cX4_findMostTaken 132 = .ok (.iinc 5 1, 3) := dget zdX4_findMostTaken_0 66 rfl
theorem dX4_findMostTaken_135 : decode cX4_findMostTaken 135 = .ok (.goto (-120), 3) := dget zdX4_findMostTaken_0 67 rfl
theorem dX4_findMostTaken_138 : decode cX4_findMostTaken 138 = .ok (.return_, 1) := dget zdX4_findMostTaken_0 68 rfl
theorem zdX4_heelsAt_0 : dchk cX4_heelsAt [(0, .iload_n 0, 1), (1, .iload_n 1, 1), (2, .if_icmp .gt 7, 3), (5, .iload_n 0, 1), (6, .goto 9, 3), (9, .iload_n 0, 1), (10, .iload_n 1, 1), (11, .isub, 1), (12, .bipush 10, 2), (14, .iadd, 1), (15, .ireturn, 1)] = true := by decide +kernel
theorem dX4_heelsAt_0 : decode cX4_heelsAt 0 = .ok (.iload_n 0, 1) := dget zdX4_heelsAt_0 0 rfl
theorem dX4_heelsAt_1 : decode cX4_heelsAt 1 = .ok (.iload_n 1, 1) := dget zdX4_heelsAt_0 1 rfl
theorem dX4_heelsAt_2 : decode cX4_heelsAt 2 = .ok (.if_icmp .gt 7, 3) := dget zdX4_heelsAt_0 2 rfl
theorem dX4_heelsAt_5 : decode cX4_heelsAt 5 = .ok (.iload_n 0, 1) := dget zdX4_heelsAt_0 3 rfl
theorem dX4_heelsAt_6 : decode cX4_heelsAt 6 = .ok (.goto 9, 3) := dget zdX4_heelsAt_0 4 rfl
theorem dX4_heelsAt_9 : decode cX4_heelsAt 9 = .ok (.iload_n 0, 1) := dget zdX4_heelsAt_0 5 rfl
theorem dX4_heelsAt_10 : decode cX4_heelsAt 10 = .ok (.iload_n 1, 1) := dget zdX4_heelsAt_0 6 rfl
theorem dX4_heelsAt_11 : decode cX4_heelsAt 11 = .ok (.isub, 1) := dget zdX4_heelsAt_0 7 rfl
theorem dX4_heelsAt_12 : decode cX4_heelsAt 12 = .ok (.bipush 10, 2) := dget zdX4_heelsAt_0 8 rfl
theorem dX4_heelsAt_14 : decode cX4_heelsAt 14 = .ok (.iadd, 1) := dget zdX4_heelsAt_0 9 rfl
theorem dX4_heelsAt_15 : decode cX4_heelsAt 15 = .ok (.ireturn, 1) := dget zdX4_heelsAt_0 10 rfl
theorem zdX4_codeOf_0 : dchk cX4_codeOf [(0, .sipush 10000, 3), (3, .iload_n 0, 1), (4, .imul, 1), (5, .bipush 100, 2), (7, .iload_n 1, 1), (8, .imul, 1), (9, .iadd, 1), (10, .iload_n 2, 1), (11, .iadd, 1), (12, .ireturn, 1)] = true := by decide +kernel
theorem dX4_codeOf_0 : decode cX4_codeOf 0 = .ok (.sipush 10000, 3) := dget zdX4_codeOf_0 0 rfl
theorem dX4_codeOf_3 : decode cX4_codeOf 3 = .ok (.iload_n 0, 1) := dget zdX4_codeOf_0 1 rfl
theorem dX4_codeOf_4 : decode cX4_codeOf 4 = .ok (.imul, 1) := dget zdX4_codeOf_0 2 rfl
theorem dX4_codeOf_5 : decode cX4_codeOf 5 = .ok (.bipush 100, 2) := dget zdX4_codeOf_0 3 rfl
theorem dX4_codeOf_7 : decode cX4_codeOf 7 = .ok (.iload_n 1, 1) := dget zdX4_codeOf_0 4 rfl
theorem dX4_codeOf_8 : decode cX4_codeOf 8 = .ok (.imul, 1) := dget zdX4_codeOf_0 5 rfl
theorem dX4_codeOf_9 : decode cX4_codeOf 9 = .ok (.iadd, 1) := dget zdX4_codeOf_0 6 rfl
theorem dX4_codeOf_10 : decode cX4_codeOf 10 = .ok (.iload_n 2, 1) := dget zdX4_codeOf_0 7 rfl
theorem dX4_codeOf_11 : decode cX4_codeOf 11 = .ok (.iadd, 1) := dget zdX4_codeOf_0 8 rfl
theorem dX4_codeOf_12 : decode cX4_codeOf 12 = .ok (.ireturn, 1) := dget zdX4_codeOf_0 9 rfl
theorem zdX5_init_0 : dchk cX5_init [(0, .aload_n 0, 1), (1, .invokespecial 1, 3), (4, .aload_n 0, 1), (5, .iconst 0, 1), (6, .putfield 7, 3), (9, .aload_n 0, 1), (10, .iconst 0, 1), (11, .putfield 13, 3), (14, .aload_n 0, 1), (15, .iload_n 1, 1), (16, .iconst 1, 1), (17, .invokestatic 16, 3), (20, .anewarray 22, 3), (23, .putfield 24, 3), (26, .iconst 0, 1), (27, .istore_n 2, 1), (28, .iload_n 2, 1), (29, .aload_n 0, 1), (30, .getfield 24, 3), (33, .arraylength, 1), (34, .if_icmp .ge 22, 3), (37, .aload_n 0, 1), (38, .getfield 24, 3), (41, .iload_n 2, 1), (42, .new 22, 3), (45, .dup, 1), (46, .invokespecial 28, 3), (49, .aastore, 1), (50, .iinc 2 1, 3), (53, .goto (-25), 3), (56, .return_, 1)] = true := by decide +kernel
theorem dX5_init_0 : decode cX5_init 0 = .ok (.aload_n 0, 1) := dget zdX5_init_0 0 rfl
theorem dX5_init_1 : decode cX5_init 1 = .ok (.invokespecial 1, 3) := dget zdX5_init_0 1 rfl
theorem dX5_init_4 : decode cX5_init 4 = .ok (.aload_n 0, 1) := dget zdX5_init_0 2 rfl
theorem dX5_init_5 : decode cX5_init 5 = .ok (.iconst 0, 1) := dget zdX5_init_0 3 rfl
theorem dX5_init_6 : decode cX5_init 6 = .ok (.putfield 7, 3) := dget zdX5_init_0 4 rfl
theorem dX5_init_9 : decode cX5_init 9 = .ok (.aload_n 0, 1) := dget zdX5_init_0 5 rfl
theorem dX5_init_10 : decode cX5_init 10 = .ok (.iconst 0, 1) := dget zdX5_init_0 6 rfl
theorem dX5_init_11 : decode cX5_init 11 = .ok (.putfield 13, 3) := dget zdX5_init_0 7 rfl
theorem dX5_init_14 : decode cX5_init 14 = .ok (.aload_n 0, 1) := dget zdX5_init_0 8 rfl
theorem dX5_init_15 : decode cX5_init 15 = .ok (.iload_n 1, 1) := dget zdX5_init_0 9 rfl
theorem dX5_init_16 : decode cX5_init 16 = .ok (.iconst 1, 1) := dget zdX5_init_0 10 rfl
theorem dX5_init_17 : decode cX5_init 17 = .ok (.invokestatic 16, 3) := dget zdX5_init_0 11 rfl
theorem dX5_init_20 : decode cX5_init 20 = .ok (.anewarray 22, 3) := dget zdX5_init_0 12 rfl
theorem dX5_init_23 : decode cX5_init 23 = .ok (.putfield 24, 3) := dget zdX5_init_0 13 rfl
theorem dX5_init_26 : decode cX5_init 26 = .ok (.iconst 0, 1) := dget zdX5_init_0 14 rfl
theorem dX5_init_27 : decode cX5_init 27 = .ok (.istore_n 2, 1) := dget zdX5_init_0 15 rfl
theorem dX5_init_28 : decode cX5_init 28 = .ok (.iload_n 2, 1) := dget zdX5_init_0 16 rfl
theorem dX5_init_29 : decode cX5_init 29 = .ok (.aload_n 0, 1) := dget zdX5_init_0 17 rfl
theorem dX5_init_30 : decode cX5_init 30 = .ok (.getfield 24, 3) := dget zdX5_init_0 18 rfl
theorem dX5_init_33 : decode cX5_init 33 = .ok (.arraylength, 1) := dget zdX5_init_0 19 rfl
theorem dX5_init_34 : decode cX5_init 34 = .ok (.if_icmp .ge 22, 3) := dget zdX5_init_0 20 rfl
theorem dX5_init_37 : decode cX5_init 37 = .ok (.aload_n 0, 1) := dget zdX5_init_0 21 rfl
theorem dX5_init_38 : decode cX5_init 38 = .ok (.getfield 24, 3) := dget zdX5_init_0 22 rfl
theorem dX5_init_41 : decode cX5_init 41 = .ok (.iload_n 2, 1) := dget zdX5_init_0 23 rfl
theorem dX5_init_42 : decode cX5_init 42 = .ok (.new 22, 3) := dget zdX5_init_0 24 rfl
theorem dX5_init_45 : decode cX5_init 45 = .ok (.dup, 1) := dget zdX5_init_0 25 rfl
theorem dX5_init_46 : decode cX5_init 46 = .ok (.invokespecial 28, 3) := dget zdX5_init_0 26 rfl
theorem dX5_init_49 : decode cX5_init 49 = .ok (.aastore, 1) := dget zdX5_init_0 27 rfl
theorem dX5_init_50 : decode cX5_init 50 = .ok (.iinc 2 1, 3) := dget zdX5_init_0 28 rfl
theorem dX5_init_53 : decode cX5_init 53 = .ok (.goto (-25), 3) := dget zdX5_init_0 29 rfl
theorem dX5_init_56 : decode cX5_init 56 = .ok (.return_, 1) := dget zdX5_init_0 30 rfl
theorem zdX5_clear_0 : dchk cX5_clear [(0, .aload_n 0, 1), (1, .iconst 0, 1), (2, .putfield 13, 3), (5, .return_, 1)] = true := by decide +kernel
theorem dX5_clear_0 : decode cX5_clear 0 = .ok (.aload_n 0, 1) := dget zdX5_clear_0 0 rfl
theorem dX5_clear_1 : decode cX5_clear 1 = .ok (.iconst 0, 1) := dget zdX5_clear_0 1 rfl
theorem dX5_clear_2 : decode cX5_clear 2 = .ok (.putfield 13, 3) := dget zdX5_clear_0 2 rfl
theorem dX5_clear_5 : decode cX5_clear 5 = .ok (.return_, 1) := dget zdX5_clear_0 3 rfl
theorem zdX5_push_0 : dchk cX5_push [(0, .aload_n 0, 1), (1, .getfield 7, 3), (4, .ifCond .lt 15, 3), (7, .aload_n 0, 1), (8, .getfield 7, 3), (11, .aload_n 0, 1), (12, .getfield 24, 3), (15, .arraylength, 1), (16, .if_icmp .lt 4, 3), (19, .return_, 1), (20, .aload_n 0, 1), (21, .getfield 24, 3), (24, .aload_n 0, 1), (25, .getfield 7, 3), (28, .aaload, 1), (29, .astore_n 2, 1), (30, .aload_n 2, 1), (31, .ifnonnull 4, 3), (34, .return_, 1), (35, .aload_n 2, 1), (36, .aload_n 1, 1), (37, .invokevirtual 29, 3), (40, .aload_n 0, 1), (41, .aload_n 0, 1), (42, .getfield 7, 3), (45, .iconst 1, 1), (46, .iadd, 1), (47, .aload_n 0, 1), (48, .getfield 24, 3), (51, .arraylength, 1), (52, .if_icmp .ge 12, 3), (55, .aload_n 0, 1), (56, .getfield 7, 3), (59, .iconst 1, 1), (60, .iadd, 1), (61, .goto 4, 3), (64, .iconst 0, 1), (65, .putfield 7, 3), (68, .aload_n 0, 1), (69, .aload_n 0, 1), (70, .getfield 13, 3), (73, .iconst 1, 1), (74, .iadd, 1), (75, .aload_n 0, 1), (76, .getfield 24, 3), (79, .arraylength, 1), (80, .invokestatic 33, 3), (83, .putfield 13, 3), (86, .return_, 1)] = true := by decide +kernel
theorem dX5_push_0 : decode cX5_push 0 = .ok (.aload_n 0, 1) := dget zdX5_push_0 0 rfl
theorem dX5_push_1 : decode cX5_push 1 = .ok (.getfield 7, 3) := dget zdX5_push_0 1 rfl
theorem dX5_push_4 : decode cX5_push 4 = .ok (.ifCond .lt 15, 3) := dget zdX5_push_0 2 rfl
theorem dX5_push_7 : decode cX5_push 7 = .ok (.aload_n 0, 1) := dget zdX5_push_0 3 rfl
theorem dX5_push_8 : decode cX5_push 8 = .ok (.getfield 7, 3) := dget zdX5_push_0 4 rfl
theorem dX5_push_11 : decode cX5_push 11 = .ok (.aload_n 0, 1) := dget zdX5_push_0 5 rfl
theorem dX5_push_12 : decode cX5_push 12 = .ok (.getfield 24, 3) := dget zdX5_push_0 6 rfl
theorem dX5_push_15 : decode cX5_push 15 = .ok (.arraylength, 1) := dget zdX5_push_0 7 rfl
theorem dX5_push_16 : decode cX5_push 16 = .ok (.if_icmp .lt 4, 3) := dget zdX5_push_0 8 rfl
theorem dX5_push_19 : decode cX5_push 19 = .ok (.return_, 1) := dget zdX5_push_0 9 rfl
theorem dX5_push_20 : decode cX5_push 20 = .ok (.aload_n 0, 1) := dget zdX5_push_0 10 rfl
theorem dX5_push_21 : decode cX5_push 21 = .ok (.getfield 24, 3) := dget zdX5_push_0 11 rfl
theorem dX5_push_24 : decode cX5_push 24 = .ok (.aload_n 0, 1) := dget zdX5_push_0 12 rfl
theorem dX5_push_25 : decode cX5_push 25 = .ok (.getfield 7, 3) := dget zdX5_push_0 13 rfl
theorem dX5_push_28 : decode cX5_push 28 = .ok (.aaload, 1) := dget zdX5_push_0 14 rfl
theorem dX5_push_29 : decode cX5_push 29 = .ok (.astore_n 2, 1) := dget zdX5_push_0 15 rfl
theorem dX5_push_30 : decode cX5_push 30 = .ok (.aload_n 2, 1) := dget zdX5_push_0 16 rfl
theorem dX5_push_31 : decode cX5_push 31 = .ok (.ifnonnull 4, 3) := dget zdX5_push_0 17 rfl
theorem dX5_push_34 : decode cX5_push 34 = .ok (.return_, 1) := dget zdX5_push_0 18 rfl
theorem dX5_push_35 : decode cX5_push 35 = .ok (.aload_n 2, 1) := dget zdX5_push_0 19 rfl
theorem dX5_push_36 : decode cX5_push 36 = .ok (.aload_n 1, 1) := dget zdX5_push_0 20 rfl
theorem dX5_push_37 : decode cX5_push 37 = .ok (.invokevirtual 29, 3) := dget zdX5_push_0 21 rfl
theorem dX5_push_40 : decode cX5_push 40 = .ok (.aload_n 0, 1) := dget zdX5_push_0 22 rfl
theorem dX5_push_41 : decode cX5_push 41 = .ok (.aload_n 0, 1) := dget zdX5_push_0 23 rfl
theorem dX5_push_42 : decode cX5_push 42 = .ok (.getfield 7, 3) := dget zdX5_push_0 24 rfl
theorem dX5_push_45 : decode cX5_push 45 = .ok (.iconst 1, 1) := dget zdX5_push_0 25 rfl
theorem dX5_push_46 : decode cX5_push 46 = .ok (.iadd, 1) := dget zdX5_push_0 26 rfl
theorem dX5_push_47 : decode cX5_push 47 = .ok (.aload_n 0, 1) := dget zdX5_push_0 27 rfl
theorem dX5_push_48 : decode cX5_push 48 = .ok (.getfield 24, 3) := dget zdX5_push_0 28 rfl
theorem dX5_push_51 : decode cX5_push 51 = .ok (.arraylength, 1) := dget zdX5_push_0 29 rfl
theorem dX5_push_52 : decode cX5_push 52 = .ok (.if_icmp .ge 12, 3) := dget zdX5_push_0 30 rfl
theorem dX5_push_55 : decode cX5_push 55 = .ok (.aload_n 0, 1) := dget zdX5_push_0 31 rfl
theorem dX5_push_56 : decode cX5_push 56 = .ok (.getfield 7, 3) := dget zdX5_push_0 32 rfl
theorem dX5_push_59 : decode cX5_push 59 = .ok (.iconst 1, 1) := dget zdX5_push_0 33 rfl
theorem dX5_push_60 : decode cX5_push 60 = .ok (.iadd, 1) := dget zdX5_push_0 34 rfl
theorem dX5_push_61 : decode cX5_push 61 = .ok (.goto 4, 3) := dget zdX5_push_0 35 rfl
theorem dX5_push_64 : decode cX5_push 64 = .ok (.iconst 0, 1) := dget zdX5_push_0 36 rfl
theorem dX5_push_65 : decode cX5_push 65 = .ok (.putfield 7, 3) := dget zdX5_push_0 37 rfl
theorem dX5_push_68 : decode cX5_push 68 = .ok (.aload_n 0, 1) := dget zdX5_push_0 38 rfl
theorem dX5_push_69 : decode cX5_push 69 = .ok (.aload_n 0, 1) := dget zdX5_push_0 39 rfl
theorem dX5_push_70 : decode cX5_push 70 = .ok (.getfield 13, 3) := dget zdX5_push_0 40 rfl
theorem dX5_push_73 : decode cX5_push 73 = .ok (.iconst 1, 1) := dget zdX5_push_0 41 rfl
theorem dX5_push_74 : decode cX5_push 74 = .ok (.iadd, 1) := dget zdX5_push_0 42 rfl
theorem dX5_push_75 : decode cX5_push 75 = .ok (.aload_n 0, 1) := dget zdX5_push_0 43 rfl
theorem dX5_push_76 : decode cX5_push 76 = .ok (.getfield 24, 3) := dget zdX5_push_0 44 rfl
theorem dX5_push_79 : decode cX5_push 79 = .ok (.arraylength, 1) := dget zdX5_push_0 45 rfl
theorem dX5_push_80 : decode cX5_push 80 = .ok (.invokestatic 33, 3) := dget zdX5_push_0 46 rfl
theorem dX5_push_83 : decode cX5_push 83 = .ok (.putfield 13, 3) := dget zdX5_push_0 47 rfl
theorem dX5_push_86 : decode cX5_push 86 = .ok (.return_, 1) := dget zdX5_push_0 48 rfl
theorem zdX5_popInto_0 : dchk cX5_popInto [(0, .aload_n 0, 1), (1, .getfield 7, 3), (4, .ifCond .le 12, 3), (7, .aload_n 0, 1), (8, .getfield 7, 3), (11, .iconst 1, 1), (12, .isub, 1), (13, .goto 10, 3), (16, .aload_n 0, 1), (17, .getfield 24, 3), (20, .arraylength, 1), (21, .iconst 1, 1), (22, .isub, 1), (23, .istore_n 2, 1), (24, .aload_n 0, 1), (25, .getfield 13, 3), (28, .ifCond .le 16, 3), (31, .iload_n 2, 1), (32, .ifCond .lt 12, 3), (35, .iload_n 2, 1), (36, .aload_n 0, 1), (37, .getfield 24, 3), (40, .arraylength, 1), (41, .if_icmp .lt 5, 3), (44, .iconst 0, 1), (45, .ireturn, 1), (46, .aload_n 0, 1), (47, .getfield 24, 3), (50, .iload_n 2, 1), (51, .aaload, 1), (52, .astore_n 3, 1), (53, .aload_n 3, 1), (54, .ifnonnull 5, 3), (57, .iconst 0, 1), (58, .ireturn, 1), (59, .aload_n 1, 1), (60, .aload_n 3, 1), (61, .invokevirtual 29, 3), (64, .aload_n 0, 1), (65, .iload_n 2, 1), (66, .putfield 7, 3), (69, .aload_n 0, 1), (70, .dup, 1), (71, .getfield 13, 3), (74, .iconst 1, 1), (75, .isub, 1), (76, .putfield 13, 3), (79, .iconst 1, 1), (80, .ireturn, 1)] = true := by decide +kernel
theorem dX5_popInto_0 : decode cX5_popInto 0 = .ok (.aload_n 0, 1) := dget zdX5_popInto_0 0 rfl
theorem dX5_popInto_1 : decode cX5_popInto 1 = .ok (.getfield 7, 3) := dget zdX5_popInto_0 1 rfl
theorem dX5_popInto_4 : decode cX5_popInto 4 = .ok (.ifCond .le 12, 3) := dget zdX5_popInto_0 2 rfl
theorem dX5_popInto_7 : decode cX5_popInto 7 = .ok (.aload_n 0, 1) := dget zdX5_popInto_0 3 rfl
theorem dX5_popInto_8 : decode cX5_popInto 8 = .ok (.getfield 7, 3) := dget zdX5_popInto_0 4 rfl
theorem dX5_popInto_11 : decode cX5_popInto 11 = .ok (.iconst 1, 1) := dget zdX5_popInto_0 5 rfl
theorem dX5_popInto_12 : decode cX5_popInto 12 = .ok (.isub, 1) := dget zdX5_popInto_0 6 rfl
theorem dX5_popInto_13 : decode cX5_popInto 13 = .ok (.goto 10, 3) := dget zdX5_popInto_0 7 rfl
theorem dX5_popInto_16 : decode cX5_popInto 16 = .ok (.aload_n 0, 1) := dget zdX5_popInto_0 8 rfl
theorem dX5_popInto_17 : decode cX5_popInto 17 = .ok (.getfield 24, 3) := dget zdX5_popInto_0 9 rfl
theorem dX5_popInto_20 : decode cX5_popInto 20 = .ok (.arraylength, 1) := dget zdX5_popInto_0 10 rfl
theorem dX5_popInto_21 : decode cX5_popInto 21 = .ok (.iconst 1, 1) := dget zdX5_popInto_0 11 rfl
theorem dX5_popInto_22 : decode cX5_popInto 22 = .ok (.isub, 1) := dget zdX5_popInto_0 12 rfl
theorem dX5_popInto_23 : decode cX5_popInto 23 = .ok (.istore_n 2, 1) := dget zdX5_popInto_0 13 rfl
theorem dX5_popInto_24 : decode cX5_popInto 24 = .ok (.aload_n 0, 1) := dget zdX5_popInto_0 14 rfl
theorem dX5_popInto_25 : decode cX5_popInto 25 = .ok (.getfield 13, 3) := dget zdX5_popInto_0 15 rfl
theorem dX5_popInto_28 : decode cX5_popInto 28 = .ok (.ifCond .le 16, 3) := dget zdX5_popInto_0 16 rfl
theorem dX5_popInto_31 : decode cX5_popInto 31 = .ok (.iload_n 2, 1) := dget zdX5_popInto_0 17 rfl
theorem dX5_popInto_32 : decode cX5_popInto 32 = .ok (.ifCond .lt 12, 3) := dget zdX5_popInto_0 18 rfl
theorem dX5_popInto_35 : decode cX5_popInto 35 = .ok (.iload_n 2, 1) := dget zdX5_popInto_0 19 rfl
theorem dX5_popInto_36 : decode cX5_popInto 36 = .ok (.aload_n 0, 1) := dget zdX5_popInto_0 20 rfl
theorem dX5_popInto_37 : decode cX5_popInto 37 = .ok (.getfield 24, 3) := dget zdX5_popInto_0 21 rfl
theorem dX5_popInto_40 : decode cX5_popInto 40 = .ok (.arraylength, 1) := dget zdX5_popInto_0 22 rfl
theorem dX5_popInto_41 : decode cX5_popInto 41 = .ok (.if_icmp .lt 5, 3) := dget zdX5_popInto_0 23 rfl
theorem dX5_popInto_44 : decode cX5_popInto 44 = .ok (.iconst 0, 1) := dget zdX5_popInto_0 24 rfl
theorem dX5_popInto_45 : decode cX5_popInto 45 = .ok (.ireturn, 1) := dget zdX5_popInto_0 25 rfl
theorem dX5_popInto_46 : decode cX5_popInto 46 = .ok (.aload_n 0, 1) := dget zdX5_popInto_0 26 rfl
theorem dX5_popInto_47 : decode cX5_popInto 47 = .ok (.getfield 24, 3) := dget zdX5_popInto_0 27 rfl
theorem dX5_popInto_50 : decode cX5_popInto 50 = .ok (.iload_n 2, 1) := dget zdX5_popInto_0 28 rfl
theorem dX5_popInto_51 : decode cX5_popInto 51 = .ok (.aaload, 1) := dget zdX5_popInto_0 29 rfl
theorem dX5_popInto_52 : decode cX5_popInto 52 = .ok (.astore_n 3, 1) := dget zdX5_popInto_0 30 rfl
theorem dX5_popInto_53 : decode cX5_popInto 53 = .ok (.aload_n 3, 1) := dget zdX5_popInto_0 31 rfl
theorem dX5_popInto_54 : decode cX5_popInto 54 = .ok (.ifnonnull 5, 3) := dget zdX5_popInto_0 32 rfl
theorem dX5_popInto_57 : decode cX5_popInto 57 = .ok (.iconst 0, 1) := dget zdX5_popInto_0 33 rfl
theorem dX5_popInto_58 : decode cX5_popInto 58 = .ok (.ireturn, 1) := dget zdX5_popInto_0 34 rfl
theorem dX5_popInto_59 : decode cX5_popInto 59 = .ok (.aload_n 1, 1) := dget zdX5_popInto_0 35 rfl
theorem dX5_popInto_60 : decode cX5_popInto 60 = .ok (.aload_n 3, 1) := dget zdX5_popInto_0 36 rfl
theorem dX5_popInto_61 : decode cX5_popInto 61 = .ok (.invokevirtual 29, 3) := dget zdX5_popInto_0 37 rfl
theorem dX5_popInto_64 : decode cX5_popInto 64 = .ok (.aload_n 0, 1) := dget zdX5_popInto_0 38 rfl
theorem dX5_popInto_65 : decode cX5_popInto 65 = .ok (.iload_n 2, 1) := dget zdX5_popInto_0 39 rfl
theorem dX5_popInto_66 : decode cX5_popInto 66 = .ok (.putfield 7, 3) := dget zdX5_popInto_0 40 rfl
theorem dX5_popInto_69 : decode cX5_popInto 69 = .ok (.aload_n 0, 1) := dget zdX5_popInto_0 41 rfl
theorem dX5_popInto_70 : decode cX5_popInto 70 = .ok (.dup, 1) := dget zdX5_popInto_0 42 rfl
theorem dX5_popInto_71 : decode cX5_popInto 71 = .ok (.getfield 13, 3) := dget zdX5_popInto_0 43 rfl
theorem dX5_popInto_74 : decode cX5_popInto 74 = .ok (.iconst 1, 1) := dget zdX5_popInto_0 44 rfl
theorem dX5_popInto_75 : decode cX5_popInto 75 = .ok (.isub, 1) := dget zdX5_popInto_0 45 rfl
theorem dX5_popInto_76 : decode cX5_popInto 76 = .ok (.putfield 13, 3) := dget zdX5_popInto_0 46 rfl
theorem dX5_popInto_79 : decode cX5_popInto 79 = .ok (.iconst 1, 1) := dget zdX5_popInto_0 47 rfl
theorem dX5_popInto_80 : decode cX5_popInto 80 = .ok (.ireturn, 1) := dget zdX5_popInto_0 48 rfl
theorem zdX6_init_0 : dchk cX6_init [(0, .aload_n 0, 1), (1, .invokespecial 3, 3), (4, .aload_n 0, 1), (5, .bipush 6, 2), (7, .newarray .int, 2), (9, .putfield 9, 3), (12, .aload_n 0, 1), (13, .bipush 6, 2), (15, .newarray .int, 2), (17, .putfield 15, 3), (20, .aload_n 0, 1), (21, .bipush 6, 2), (23, .newarray .int, 2), (25, .putfield 18, 3), (28, .aload_n 0, 1), (29, .iconst 0, 1), (30, .putfield 21, 3), (33, .return_, 1)] = true := by decide +kernel
theorem dX6_init_0 : decode cX6_init 0 = .ok (.aload_n 0, 1) := dget zdX6_init_0 0 rfl
theorem dX6_init_1 : decode cX6_init 1 = .ok (.invokespecial 3, 3) := dget zdX6_init_0 1 rfl
theorem dX6_init_4 : decode cX6_init 4 = .ok (.aload_n 0, 1) := dget zdX6_init_0 2 rfl
theorem dX6_init_5 : decode cX6_init 5 = .ok (.bipush 6, 2) := dget zdX6_init_0 3 rfl
theorem dX6_init_7 : decode cX6_init 7 = .ok (.newarray .int, 2) := dget zdX6_init_0 4 rfl
theorem dX6_init_9 : decode cX6_init 9 = .ok (.putfield 9, 3) := dget zdX6_init_0 5 rfl
theorem dX6_init_12 : decode cX6_init 12 = .ok (.aload_n 0, 1) := dget zdX6_init_0 6 rfl
theorem dX6_init_13 : decode cX6_init 13 = .ok (.bipush 6, 2) := dget zdX6_init_0 7 rfl
theorem dX6_init_15 : decode cX6_init 15 = .ok (.newarray .int, 2) := dget zdX6_init_0 8 rfl
theorem dX6_init_17 : decode cX6_init 17 = .ok (.putfield 15, 3) := dget zdX6_init_0 9 rfl
theorem dX6_init_20 : decode cX6_init 20 = .ok (.aload_n 0, 1) := dget zdX6_init_0 10 rfl
theorem dX6_init_21 : decode cX6_init 21 = .ok (.bipush 6, 2) := dget zdX6_init_0 11 rfl
theorem dX6_init_23 : decode cX6_init 23 = .ok (.newarray .int, 2) := dget zdX6_init_0 12 rfl
theorem dX6_init_25 : decode cX6_init 25 = .ok (.putfield 18, 3) := dget zdX6_init_0 13 rfl
theorem dX6_init_28 : decode cX6_init 28 = .ok (.aload_n 0, 1) := dget zdX6_init_0 14 rfl
theorem dX6_init_29 : decode cX6_init 29 = .ok (.iconst 0, 1) := dget zdX6_init_0 15 rfl
theorem dX6_init_30 : decode cX6_init 30 = .ok (.putfield 21, 3) := dget zdX6_init_0 16 rfl
theorem dX6_init_33 : decode cX6_init 33 = .ok (.return_, 1) := dget zdX6_init_0 17 rfl
theorem zdX6_clear_0 : dchk cX6_clear [(0, .aload_n 0, 1), (1, .iconst 0, 1), (2, .putfield 21, 3), (5, .return_, 1)] = true := by decide +kernel
theorem dX6_clear_0 : decode cX6_clear 0 = .ok (.aload_n 0, 1) := dget zdX6_clear_0 0 rfl
theorem dX6_clear_1 : decode cX6_clear 1 = .ok (.iconst 0, 1) := dget zdX6_clear_0 1 rfl
theorem dX6_clear_2 : decode cX6_clear 2 = .ok (.putfield 21, 3) := dget zdX6_clear_0 2 rfl
theorem dX6_clear_5 : decode cX6_clear 5 = .ok (.return_, 1) := dget zdX6_clear_0 3 rfl
theorem zdX6_add_0 : dchk cX6_add [(0, .aload_n 0, 1), (1, .getfield 21, 3), (4, .ifCond .lt 12, 3), (7, .aload_n 0, 1), (8, .getfield 21, 3), (11, .bipush 6, 2), (13, .if_icmp .lt 5, 3), (16, .iconst 0, 1), (17, .ireturn, 1), (18, .aload_n 0, 1), (19, .getfield 9, 3), (22, .aload_n 0, 1), (23, .getfield 21, 3), (26, .iload_n 1, 1), (27, .iastore, 1), (28, .aload_n 0, 1), (29, .getfield 15, 3), (32, .aload_n 0, 1), (33, .getfield 21, 3), (36, .iload_n 2, 1), (37, .iastore, 1), (38, .aload_n 0, 1), (39, .getfield 18, 3), (42, .aload_n 0, 1), (43, .getfield 21, 3), (46, .iload_n 3, 1), (47, .iastore, 1), (48, .aload_n 0, 1), (49, .dup, 1), (50, .getfield 21, 3), (53, .iconst 1, 1), (54, .iadd, 1), (55, .putfield 21, 3), (58, .iconst 1, 1), (59, .ireturn, 1)] = true := by decide +kernel
theorem dX6_add_0 : decode cX6_add 0 = .ok (.aload_n 0, 1) := dget zdX6_add_0 0 rfl
theorem dX6_add_1 : decode cX6_add 1 = .ok (.getfield 21, 3) := dget zdX6_add_0 1 rfl
theorem dX6_add_4 : decode cX6_add 4 = .ok (.ifCond .lt 12, 3) := dget zdX6_add_0 2 rfl
theorem dX6_add_7 : decode cX6_add 7 = .ok (.aload_n 0, 1) := dget zdX6_add_0 3 rfl
theorem dX6_add_8 : decode cX6_add 8 = .ok (.getfield 21, 3) := dget zdX6_add_0 4 rfl
theorem dX6_add_11 : decode cX6_add 11 = .ok (.bipush 6, 2) := dget zdX6_add_0 5 rfl
theorem dX6_add_13 : decode cX6_add 13 = .ok (.if_icmp .lt 5, 3) := dget zdX6_add_0 6 rfl
theorem dX6_add_16 : decode cX6_add 16 = .ok (.iconst 0, 1) := dget zdX6_add_0 7 rfl
theorem dX6_add_17 : decode cX6_add 17 = .ok (.ireturn, 1) := dget zdX6_add_0 8 rfl
theorem dX6_add_18 : decode cX6_add 18 = .ok (.aload_n 0, 1) := dget zdX6_add_0 9 rfl
theorem dX6_add_19 : decode cX6_add 19 = .ok (.getfield 9, 3) := dget zdX6_add_0 10 rfl
theorem dX6_add_22 : decode cX6_add 22 = .ok (.aload_n 0, 1) := dget zdX6_add_0 11 rfl
theorem dX6_add_23 : decode cX6_add 23 = .ok (.getfield 21, 3) := dget zdX6_add_0 12 rfl
theorem dX6_add_26 : decode cX6_add 26 = .ok (.iload_n 1, 1) := dget zdX6_add_0 13 rfl
theorem dX6_add_27 : decode cX6_add 27 = .ok (.iastore, 1) := dget zdX6_add_0 14 rfl
theorem dX6_add_28 : decode cX6_add 28 = .ok (.aload_n 0, 1) := dget zdX6_add_0 15 rfl
theorem dX6_add_29 : decode cX6_add 29 = .ok (.getfield 15, 3) := dget zdX6_add_0 16 rfl
theorem dX6_add_32 : decode cX6_add 32 = .ok (.aload_n 0, 1) := dget zdX6_add_0 17 rfl
theorem dX6_add_33 : decode cX6_add 33 = .ok (.getfield 21, 3) := dget zdX6_add_0 18 rfl
theorem dX6_add_36 : decode cX6_add 36 = .ok (.iload_n 2, 1) := dget zdX6_add_0 19 rfl
theorem dX6_add_37 : decode cX6_add 37 = .ok (.iastore, 1) := dget zdX6_add_0 20 rfl
theorem dX6_add_38 : decode cX6_add 38 = .ok (.aload_n 0, 1) := dget zdX6_add_0 21 rfl
theorem dX6_add_39 : decode cX6_add 39 = .ok (.getfield 18, 3) := dget zdX6_add_0 22 rfl
theorem dX6_add_42 : decode cX6_add 42 = .ok (.aload_n 0, 1) := dget zdX6_add_0 23 rfl
theorem dX6_add_43 : decode cX6_add 43 = .ok (.getfield 21, 3) := dget zdX6_add_0 24 rfl
theorem dX6_add_46 : decode cX6_add 46 = .ok (.iload_n 3, 1) := dget zdX6_add_0 25 rfl
theorem dX6_add_47 : decode cX6_add 47 = .ok (.iastore, 1) := dget zdX6_add_0 26 rfl
theorem dX6_add_48 : decode cX6_add 48 = .ok (.aload_n 0, 1) := dget zdX6_add_0 27 rfl
theorem dX6_add_49 : decode cX6_add 49 = .ok (.dup, 1) := dget zdX6_add_0 28 rfl
theorem dX6_add_50 : decode cX6_add 50 = .ok (.getfield 21, 3) := dget zdX6_add_0 29 rfl
theorem dX6_add_53 : decode cX6_add 53 = .ok (.iconst 1, 1) := dget zdX6_add_0 30 rfl
theorem dX6_add_54 : decode cX6_add 54 = .ok (.iadd, 1) := dget zdX6_add_0 31 rfl
theorem dX6_add_55 : decode cX6_add 55 = .ok (.putfield 21, 3) := dget zdX6_add_0 32 rfl
theorem dX6_add_58 : decode cX6_add 58 = .ok (.iconst 1, 1) := dget zdX6_add_0 33 rfl
theorem dX6_add_59 : decode cX6_add 59 = .ok (.ireturn, 1) := dget zdX6_add_0 34 rfl
theorem zdX6_allHold_0 : dchk cX6_allHold [(0, .iconst 0, 1), (1, .istore_n 3, 1), (2, .iload_n 3, 1), (3, .aload_n 0, 1), (4, .getfield 21, 3), (7, .if_icmp .ge 48, 3), (10, .iload_n 3, 1), (11, .bipush 6, 2), (13, .if_icmp .ge 42, 3), (16, .aload_n 2, 1), (17, .aload_n 1, 1), (18, .aload_n 0, 1), (19, .getfield 9, 3), (22, .iload_n 3, 1), (23, .iaload, 1), (24, .aload_n 0, 1), (25, .getfield 15, 3), (28, .iload_n 3, 1), (29, .iaload, 1), (30, .iconst 0, 1), (31, .invokevirtual 25, 3), (34, .aload_n 2, 1), (35, .getfield 31, 3), (38, .aload_n 0, 1), (39, .getfield 18, 3), (42, .iload_n 3, 1), (43, .iaload, 1), (44, .if_icmp .eq 5, 3), (47, .iconst 0, 1), (48, .ireturn, 1), (49, .iinc 3 1, 3), (52, .goto (-50), 3), (55, .iconst 1, 1), (56, .ireturn, 1)] = true := by decide +kernel
theorem dX6_allHold_0 : decode cX6_allHold 0 = .ok (.iconst 0, 1) := dget zdX6_allHold_0 0 rfl
theorem dX6_allHold_1 : decode cX6_allHold 1 = .ok (.istore_n 3, 1) := dget zdX6_allHold_0 1 rfl
theorem dX6_allHold_2 : decode cX6_allHold 2 = .ok (.iload_n 3, 1) := dget zdX6_allHold_0 2 rfl
theorem dX6_allHold_3 : decode cX6_allHold 3 = .ok (.aload_n 0, 1) := dget zdX6_allHold_0 3 rfl
theorem dX6_allHold_4 : decode cX6_allHold 4 = .ok (.getfield 21, 3) := dget zdX6_allHold_0 4 rfl
theorem dX6_allHold_7 : decode cX6_allHold 7 = .ok (.if_icmp .ge 48, 3) := dget zdX6_allHold_0 5 rfl
theorem dX6_allHold_10 : decode cX6_allHold 10 = .ok (.iload_n 3, 1) := dget zdX6_allHold_0 6 rfl
theorem dX6_allHold_11 : decode cX6_allHold 11 = .ok (.bipush 6, 2) := dget zdX6_allHold_0 7 rfl
theorem dX6_allHold_13 : decode cX6_allHold 13 = .ok (.if_icmp .ge 42, 3) := dget zdX6_allHold_0 8 rfl
theorem dX6_allHold_16 : decode cX6_allHold 16 = .ok (.aload_n 2, 1) := dget zdX6_allHold_0 9 rfl
theorem dX6_allHold_17 : decode cX6_allHold 17 = .ok (.aload_n 1, 1) := dget zdX6_allHold_0 10 rfl
theorem dX6_allHold_18 : decode cX6_allHold 18 = .ok (.aload_n 0, 1) := dget zdX6_allHold_0 11 rfl
theorem dX6_allHold_19 : decode cX6_allHold 19 = .ok (.getfield 9, 3) := dget zdX6_allHold_0 12 rfl
theorem dX6_allHold_22 : decode cX6_allHold 22 = .ok (.iload_n 3, 1) := dget zdX6_allHold_0 13 rfl
theorem dX6_allHold_23 : decode cX6_allHold 23 = .ok (.iaload, 1) := dget zdX6_allHold_0 14 rfl
theorem dX6_allHold_24 : decode cX6_allHold 24 = .ok (.aload_n 0, 1) := dget zdX6_allHold_0 15 rfl
theorem dX6_allHold_25 : decode cX6_allHold 25 = .ok (.getfield 15, 3) := dget zdX6_allHold_0 16 rfl
theorem dX6_allHold_28 : decode cX6_allHold 28 = .ok (.iload_n 3, 1) := dget zdX6_allHold_0 17 rfl
theorem dX6_allHold_29 : decode cX6_allHold 29 = .ok (.iaload, 1) := dget zdX6_allHold_0 18 rfl
theorem dX6_allHold_30 : decode cX6_allHold 30 = .ok (.iconst 0, 1) := dget zdX6_allHold_0 19 rfl
theorem dX6_allHold_31 : decode cX6_allHold 31 = .ok (.invokevirtual 25, 3) := dget zdX6_allHold_0 20 rfl
theorem dX6_allHold_34 : decode cX6_allHold 34 = .ok (.aload_n 2, 1) := dget zdX6_allHold_0 21 rfl
theorem dX6_allHold_35 : decode cX6_allHold 35 = .ok (.getfield 31, 3) := dget zdX6_allHold_0 22 rfl
theorem dX6_allHold_38 : decode cX6_allHold 38 = .ok (.aload_n 0, 1) := dget zdX6_allHold_0 23 rfl
theorem dX6_allHold_39 : decode cX6_allHold 39 = .ok (.getfield 18, 3) := dget zdX6_allHold_0 24 rfl
theorem dX6_allHold_42 : decode cX6_allHold 42 = .ok (.iload_n 3, 1) := dget zdX6_allHold_0 25 rfl
theorem dX6_allHold_43 : decode cX6_allHold 43 = .ok (.iaload, 1) := dget zdX6_allHold_0 26 rfl
theorem dX6_allHold_44 : decode cX6_allHold 44 = .ok (.if_icmp .eq 5, 3) := dget zdX6_allHold_0 27 rfl
theorem dX6_allHold_47 : decode cX6_allHold 47 = .ok (.iconst 0, 1) := dget zdX6_allHold_0 28 rfl
theorem dX6_allHold_48 : decode cX6_allHold 48 = .ok (.ireturn, 1) := dget zdX6_allHold_0 29 rfl
theorem dX6_allHold_49 : decode cX6_allHold 49 = .ok (.iinc 3 1, 3) := dget zdX6_allHold_0 30 rfl
theorem dX6_allHold_52 : decode cX6_allHold 52 = .ok (.goto (-50), 3) := dget zdX6_allHold_0 31 rfl
theorem dX6_allHold_55 : decode cX6_allHold 55 = .ok (.iconst 1, 1) := dget zdX6_allHold_0 32 rfl
theorem dX6_allHold_56 : decode cX6_allHold 56 = .ok (.ireturn, 1) := dget zdX6_allHold_0 33 rfl
theorem zdX7_init_0 : dchk cX7_init [(0, .aload_n 0, 1), (1, .invokespecial 3, 3), (4, .aload_n 0, 1), (5, .sipush 200, 3), (8, .newarray .int, 2), (10, .putfield 9, 3), (13, .aload_n 0, 1), (14, .iconst 0, 1), (15, .putfield 15, 3), (18, .return_, 1)] = true := by decide +kernel
theorem dX7_init_0 : decode cX7_init 0 = .ok (.aload_n 0, 1) := dget zdX7_init_0 0 rfl
theorem dX7_init_1 : decode cX7_init 1 = .ok (.invokespecial 3, 3) := dget zdX7_init_0 1 rfl
theorem dX7_init_4 : decode cX7_init 4 = .ok (.aload_n 0, 1) := dget zdX7_init_0 2 rfl
theorem dX7_init_5 : decode cX7_init 5 = .ok (.sipush 200, 3) := dget zdX7_init_0 3 rfl
theorem dX7_init_8 : decode cX7_init 8 = .ok (.newarray .int, 2) := dget zdX7_init_0 4 rfl
theorem dX7_init_10 : decode cX7_init 10 = .ok (.putfield 9, 3) := dget zdX7_init_0 5 rfl
theorem dX7_init_13 : decode cX7_init 13 = .ok (.aload_n 0, 1) := dget zdX7_init_0 6 rfl
theorem dX7_init_14 : decode cX7_init 14 = .ok (.iconst 0, 1) := dget zdX7_init_0 7 rfl
theorem dX7_init_15 : decode cX7_init 15 = .ok (.putfield 15, 3) := dget zdX7_init_0 8 rfl
theorem dX7_init_18 : decode cX7_init 18 = .ok (.return_, 1) := dget zdX7_init_0 9 rfl
theorem zdX7_append_0 : dchk cX7_append [(0, .aload_n 0, 1), (1, .getfield 15, 3), (4, .ifCond .lt 15, 3), (7, .aload_n 0, 1), (8, .getfield 15, 3), (11, .aload_n 0, 1), (12, .getfield 9, 3), (15, .arraylength, 1), (16, .if_icmp .lt 5, 3), (19, .iconst 0, 1), (20, .ireturn, 1), (21, .aload_n 0, 1), (22, .getfield 9, 3), (25, .aload_n 0, 1), (26, .getfield 15, 3), (29, .iload_n 1, 1), (30, .iastore, 1), (31, .aload_n 0, 1), (32, .dup, 1), (33, .getfield 15, 3), (36, .iconst 1, 1), (37, .iadd, 1), (38, .putfield 15, 3), (41, .iconst 1, 1), (42, .ireturn, 1)] = true := by decide +kernel
theorem dX7_append_0 : decode cX7_append 0 = .ok (.aload_n 0, 1) := dget zdX7_append_0 0 rfl
theorem dX7_append_1 : decode cX7_append 1 = .ok (.getfield 15, 3) := dget zdX7_append_0 1 rfl
theorem dX7_append_4 : decode cX7_append 4 = .ok (.ifCond .lt 15, 3) := dget zdX7_append_0 2 rfl
theorem dX7_append_7 : decode cX7_append 7 = .ok (.aload_n 0, 1) := dget zdX7_append_0 3 rfl
theorem dX7_append_8 : decode cX7_append 8 = .ok (.getfield 15, 3) := dget zdX7_append_0 4 rfl
theorem dX7_append_11 : decode cX7_append 11 = .ok (.aload_n 0, 1) := dget zdX7_append_0 5 rfl
theorem dX7_append_12 : decode cX7_append 12 = .ok (.getfield 9, 3) := dget zdX7_append_0 6 rfl
theorem dX7_append_15 : decode cX7_append 15 = .ok (.arraylength, 1) := dget zdX7_append_0 7 rfl
theorem dX7_append_16 : decode cX7_append 16 = .ok (.if_icmp .lt 5, 3) := dget zdX7_append_0 8 rfl
theorem dX7_append_19 : decode cX7_append 19 = .ok (.iconst 0, 1) := dget zdX7_append_0 9 rfl
theorem dX7_append_20 : decode cX7_append 20 = .ok (.ireturn, 1) := dget zdX7_append_0 10 rfl
theorem dX7_append_21 : decode cX7_append 21 = .ok (.aload_n 0, 1) := dget zdX7_append_0 11 rfl
theorem dX7_append_22 : decode cX7_append 22 = .ok (.getfield 9, 3) := dget zdX7_append_0 12 rfl
theorem dX7_append_25 : decode cX7_append 25 = .ok (.aload_n 0, 1) := dget zdX7_append_0 13 rfl
theorem dX7_append_26 : decode cX7_append 26 = .ok (.getfield 15, 3) := dget zdX7_append_0 14 rfl
theorem dX7_append_29 : decode cX7_append 29 = .ok (.iload_n 1, 1) := dget zdX7_append_0 15 rfl
theorem dX7_append_30 : decode cX7_append 30 = .ok (.iastore, 1) := dget zdX7_append_0 16 rfl
theorem dX7_append_31 : decode cX7_append 31 = .ok (.aload_n 0, 1) := dget zdX7_append_0 17 rfl
theorem dX7_append_32 : decode cX7_append 32 = .ok (.dup, 1) := dget zdX7_append_0 18 rfl
theorem dX7_append_33 : decode cX7_append 33 = .ok (.getfield 15, 3) := dget zdX7_append_0 19 rfl
theorem dX7_append_36 : decode cX7_append 36 = .ok (.iconst 1, 1) := dget zdX7_append_0 20 rfl
theorem dX7_append_37 : decode cX7_append 37 = .ok (.iadd, 1) := dget zdX7_append_0 21 rfl
theorem dX7_append_38 : decode cX7_append 38 = .ok (.putfield 15, 3) := dget zdX7_append_0 22 rfl
theorem dX7_append_41 : decode cX7_append 41 = .ok (.iconst 1, 1) := dget zdX7_append_0 23 rfl
theorem dX7_append_42 : decode cX7_append 42 = .ok (.ireturn, 1) := dget zdX7_append_0 24 rfl
theorem zdX7_clear_0 : dchk cX7_clear [(0, .aload_n 0, 1), (1, .iconst 0, 1), (2, .putfield 15, 3), (5, .return_, 1)] = true := by decide +kernel
theorem dX7_clear_0 : decode cX7_clear 0 = .ok (.aload_n 0, 1) := dget zdX7_clear_0 0 rfl
theorem dX7_clear_1 : decode cX7_clear 1 = .ok (.iconst 0, 1) := dget zdX7_clear_0 1 rfl
theorem dX7_clear_2 : decode cX7_clear 2 = .ok (.putfield 15, 3) := dget zdX7_clear_0 2 rfl
theorem dX7_clear_5 : decode cX7_clear 5 = .ok (.return_, 1) := dget zdX7_clear_0 3 rfl
theorem zdX7_letterAt_0 : dchk cX7_letterAt [(0, .iload_n 1, 1), (1, .ifCond .lt 20, 3), (4, .iload_n 1, 1), (5, .aload_n 0, 1), (6, .getfield 15, 3), (9, .if_icmp .ge 12, 3), (12, .iload_n 1, 1), (13, .aload_n 0, 1), (14, .getfield 9, 3), (17, .arraylength, 1), (18, .if_icmp .lt 5, 3), (21, .iconst 0, 1), (22, .ireturn, 1), (23, .aload_n 0, 1), (24, .getfield 9, 3), (27, .iload_n 1, 1), (28, .iaload, 1), (29, .ireturn, 1)] = true := by decide +kernel
theorem dX7_letterAt_0 : decode cX7_letterAt 0 = .ok (.iload_n 1, 1) := dget zdX7_letterAt_0 0 rfl
theorem dX7_letterAt_1 : decode cX7_letterAt 1 = .ok (.ifCond .lt 20, 3) := dget zdX7_letterAt_0 1 rfl
theorem dX7_letterAt_4 : decode cX7_letterAt 4 = .ok (.iload_n 1, 1) := dget zdX7_letterAt_0 2 rfl
theorem dX7_letterAt_5 : decode cX7_letterAt 5 = .ok (.aload_n 0, 1) := dget zdX7_letterAt_0 3 rfl
theorem dX7_letterAt_6 : decode cX7_letterAt 6 = .ok (.getfield 15, 3) := dget zdX7_letterAt_0 4 rfl
theorem dX7_letterAt_9 : decode cX7_letterAt 9 = .ok (.if_icmp .ge 12, 3) := dget zdX7_letterAt_0 5 rfl
theorem dX7_letterAt_12 : decode cX7_letterAt 12 = .ok (.iload_n 1, 1) := dget zdX7_letterAt_0 6 rfl
theorem dX7_letterAt_13 : decode cX7_letterAt 13 = .ok (.aload_n 0, 1) := dget zdX7_letterAt_0 7 rfl
theorem dX7_letterAt_14 : decode cX7_letterAt 14 = .ok (.getfield 9, 3) := dget zdX7_letterAt_0 8 rfl
theorem dX7_letterAt_17 : decode cX7_letterAt 17 = .ok (.arraylength, 1) := dget zdX7_letterAt_0 9 rfl
theorem dX7_letterAt_18 : decode cX7_letterAt 18 = .ok (.if_icmp .lt 5, 3) := dget zdX7_letterAt_0 10 rfl
theorem dX7_letterAt_21 : decode cX7_letterAt 21 = .ok (.iconst 0, 1) := dget zdX7_letterAt_0 11 rfl
theorem dX7_letterAt_22 : decode cX7_letterAt 22 = .ok (.ireturn, 1) := dget zdX7_letterAt_0 12 rfl
theorem dX7_letterAt_23 : decode cX7_letterAt 23 = .ok (.aload_n 0, 1) := dget zdX7_letterAt_0 13 rfl
theorem dX7_letterAt_24 : decode cX7_letterAt 24 = .ok (.getfield 9, 3) := dget zdX7_letterAt_0 14 rfl
theorem dX7_letterAt_27 : decode cX7_letterAt 27 = .ok (.iload_n 1, 1) := dget zdX7_letterAt_0 15 rfl
theorem dX7_letterAt_28 : decode cX7_letterAt 28 = .ok (.iaload, 1) := dget zdX7_letterAt_0 16 rfl
theorem dX7_letterAt_29 : decode cX7_letterAt 29 = .ok (.ireturn, 1) := dget zdX7_letterAt_0 17 rfl
theorem zdX7_readInto_0 : dchk cX7_readInto [(0, .aload_n 1, 1), (1, .invokevirtual 19, 3), (4, .iconst 0, 1), (5, .istore_n 2, 1), (6, .iconst 0, 1), (7, .istore_n 3, 1), (8, .iload_n 3, 1), (9, .sipush 200, 3), (12, .if_icmp .ge 37, 3), (15, .iload_n 2, 1), (16, .aload_n 0, 1), (17, .getfield 15, 3), (20, .if_icmp .ge 29, 3), (23, .aload_n 0, 1), (24, .iload_n 2, 1), (25, .aload_n 1, 1), (26, .invokevirtual 24, 3), (29, .istore 4, 2), (31, .iload 4, 2), (33, .bipush (-4), 2), (35, .if_icmp .ne 5, 3), (38, .iload_n 2, 1), (39, .ireturn, 1), (40, .iload 4, 2), (42, .istore_n 2, 1), (43, .iinc 3 1, 3), (46, .goto (-38), 3), (49, .bipush (-4), 2), (51, .ireturn, 1)] = true := by decide +kernel
theorem dX7_readInto_0 : decode cX7_readInto 0 = .ok (.aload_n 1, 1) := dget zdX7_readInto_0 0 rfl
theorem dX7_readInto_1 : decode cX7_readInto 1 = .ok (.invokevirtual 19, 3) := dget zdX7_readInto_0 1 rfl
theorem dX7_readInto_4 : decode cX7_readInto 4 = .ok (.iconst 0, 1) := dget zdX7_readInto_0 2 rfl
theorem dX7_readInto_5 : decode cX7_readInto 5 = .ok (.istore_n 2, 1) := dget zdX7_readInto_0 3 rfl
theorem dX7_readInto_6 : decode cX7_readInto 6 = .ok (.iconst 0, 1) := dget zdX7_readInto_0 4 rfl
theorem dX7_readInto_7 : decode cX7_readInto 7 = .ok (.istore_n 3, 1) := dget zdX7_readInto_0 5 rfl
theorem dX7_readInto_8 : decode cX7_readInto 8 = .ok (.iload_n 3, 1) := dget zdX7_readInto_0 6 rfl
theorem dX7_readInto_9 : decode cX7_readInto 9 = .ok (.sipush 200, 3) := dget zdX7_readInto_0 7 rfl
theorem dX7_readInto_12 : decode cX7_readInto 12 = .ok (.if_icmp .ge 37, 3) := dget zdX7_readInto_0 8 rfl
theorem dX7_readInto_15 : decode cX7_readInto 15 = .ok (.iload_n 2, 1) := dget zdX7_readInto_0 9 rfl
theorem dX7_readInto_16 : decode cX7_readInto 16 = .ok (.aload_n 0, 1) := dget zdX7_readInto_0 10 rfl
theorem dX7_readInto_17 : decode cX7_readInto 17 = .ok (.getfield 15, 3) := dget zdX7_readInto_0 11 rfl
theorem dX7_readInto_20 : decode cX7_readInto 20 = .ok (.if_icmp .ge 29, 3) := dget zdX7_readInto_0 12 rfl
theorem dX7_readInto_23 : decode cX7_readInto 23 = .ok (.aload_n 0, 1) := dget zdX7_readInto_0 13 rfl
theorem dX7_readInto_24 : decode cX7_readInto 24 = .ok (.iload_n 2, 1) := dget zdX7_readInto_0 14 rfl
theorem dX7_readInto_25 : decode cX7_readInto 25 = .ok (.aload_n 1, 1) := dget zdX7_readInto_0 15 rfl
theorem dX7_readInto_26 : decode cX7_readInto 26 = .ok (.invokevirtual 24, 3) := dget zdX7_readInto_0 16 rfl
theorem dX7_readInto_29 : decode cX7_readInto 29 = .ok (.istore 4, 2) := dget zdX7_readInto_0 17 rfl
theorem dX7_readInto_31 : decode cX7_readInto 31 = .ok (.iload 4, 2) := dget zdX7_readInto_0 18 rfl
theorem dX7_readInto_33 : decode cX7_readInto 33 = .ok (.bipush (-4), 2) := dget zdX7_readInto_0 19 rfl
theorem dX7_readInto_35 : decode cX7_readInto 35 = .ok (.if_icmp .ne 5, 3) := dget zdX7_readInto_0 20 rfl
theorem dX7_readInto_38 : decode cX7_readInto 38 = .ok (.iload_n 2, 1) := dget zdX7_readInto_0 21 rfl
theorem dX7_readInto_39 : decode cX7_readInto 39 = .ok (.ireturn, 1) := dget zdX7_readInto_0 22 rfl
theorem dX7_readInto_40 : decode cX7_readInto 40 = .ok (.iload 4, 2) := dget zdX7_readInto_0 23 rfl
theorem dX7_readInto_42 : decode cX7_readInto 42 = .ok (.istore_n 2, 1) := dget zdX7_readInto_0 24 rfl
theorem dX7_readInto_43 : decode cX7_readInto 43 = .ok (.iinc 3 1, 3) := dget zdX7_readInto_0 25 rfl
theorem dX7_readInto_46 : decode cX7_readInto 46 = .ok (.goto (-38), 3) := dget zdX7_readInto_0 26 rfl
theorem dX7_readInto_49 : decode cX7_readInto 49 = .ok (.bipush (-4), 2) := dget zdX7_readInto_0 27 rfl
theorem dX7_readInto_51 : decode cX7_readInto 51 = .ok (.ireturn, 1) := dget zdX7_readInto_0 28 rfl
theorem zdX7_readItem_0 : dchk cX7_readItem [(0, .aload_n 0, 1), (1, .iload_n 1, 1), (2, .invokevirtual 28, 3), (5, .lookupswitch 45 #[(111, 36), (114, 27)], 27), (32, .aload_n 0, 1), (33, .iload_n 1, 1), (34, .iconst 1, 1), (35, .iadd, 1), (36, .aload_n 2, 1), (37, .invokevirtual 32, 3), (40, .ireturn, 1), (41, .aload_n 0, 1), (42, .iload_n 1, 1), (43, .iconst 1, 1), (44, .iadd, 1), (45, .aload_n 2, 1), (46, .invokevirtual 35, 3), (49, .ireturn, 1), (50, .bipush (-4), 2), (52, .ireturn, 1)] = true := by decide +kernel
theorem dX7_readItem_0 : decode cX7_readItem 0 = .ok (.aload_n 0, 1) := dget zdX7_readItem_0 0 rfl
theorem dX7_readItem_1 : decode cX7_readItem 1 = .ok (.iload_n 1, 1) := dget zdX7_readItem_0 1 rfl
theorem dX7_readItem_2 : decode cX7_readItem 2 = .ok (.invokevirtual 28, 3) := dget zdX7_readItem_0 2 rfl
theorem dX7_readItem_5 : decode cX7_readItem 5 = .ok (.lookupswitch 45 #[(111, 36), (114, 27)], 27) := dget zdX7_readItem_0 3 rfl
theorem dX7_readItem_32 : decode cX7_readItem 32 = .ok (.aload_n 0, 1) := dget zdX7_readItem_0 4 rfl
theorem dX7_readItem_33 : decode cX7_readItem 33 = .ok (.iload_n 1, 1) := dget zdX7_readItem_0 5 rfl
theorem dX7_readItem_34 : decode cX7_readItem 34 = .ok (.iconst 1, 1) := dget zdX7_readItem_0 6 rfl
theorem dX7_readItem_35 : decode cX7_readItem 35 = .ok (.iadd, 1) := dget zdX7_readItem_0 7 rfl
theorem dX7_readItem_36 : decode cX7_readItem 36 = .ok (.aload_n 2, 1) := dget zdX7_readItem_0 8 rfl
theorem dX7_readItem_37 : decode cX7_readItem 37 = .ok (.invokevirtual 32, 3) := dget zdX7_readItem_0 9 rfl
theorem dX7_readItem_40 : decode cX7_readItem 40 = .ok (.ireturn, 1) := dget zdX7_readItem_0 10 rfl
theorem dX7_readItem_41 : decode cX7_readItem 41 = .ok (.aload_n 0, 1) := dget zdX7_readItem_0 11 rfl
theorem dX7_readItem_42 : decode cX7_readItem 42 = .ok (.iload_n 1, 1) := dget zdX7_readItem_0 12 rfl
theorem dX7_readItem_43 : decode cX7_readItem 43 = .ok (.iconst 1, 1) := dget zdX7_readItem_0 13 rfl
theorem dX7_readItem_44 : decode cX7_readItem 44 = .ok (.iadd, 1) := dget zdX7_readItem_0 14 rfl
theorem dX7_readItem_45 : decode cX7_readItem 45 = .ok (.aload_n 2, 1) := dget zdX7_readItem_0 15 rfl
theorem dX7_readItem_46 : decode cX7_readItem 46 = .ok (.invokevirtual 35, 3) := dget zdX7_readItem_0 16 rfl
theorem dX7_readItem_49 : decode cX7_readItem 49 = .ok (.ireturn, 1) := dget zdX7_readItem_0 17 rfl
theorem dX7_readItem_50 : decode cX7_readItem 50 = .ok (.bipush (-4), 2) := dget zdX7_readItem_0 18 rfl
theorem dX7_readItem_52 : decode cX7_readItem 52 = .ok (.ireturn, 1) := dget zdX7_readItem_0 19 rfl
theorem zdX7_readRow_0 : dchk cX7_readRow [(0, .iconst 0, 1), (1, .istore_n 3, 1), (2, .iload_n 3, 1), (3, .bipush 6, 2), (5, .if_icmp .gt 25, 3), (8, .aload_n 0, 1), (9, .iload_n 1, 1), (10, .iload_n 3, 1), (11, .iadd, 1), (12, .invokevirtual 28, 3), (15, .bipush 48, 2), (17, .isub, 1), (18, .invokestatic 38, 3), (21, .ifCond .eq 9, 3), (24, .iinc 3 1, 3), (27, .goto (-25), 3), (30, .aload_n 0, 1), (31, .iload_n 1, 1), (32, .iload_n 3, 1), (33, .iadd, 1), (34, .invokevirtual 28, 3), (37, .bipush 59, 2), (39, .if_icmp .ne 11, 3), (42, .aload_n 2, 1), (43, .iload_n 3, 1), (44, .invokevirtual 42, 3), (47, .ifCond .ne 6, 3), (50, .bipush (-4), 2), (52, .ireturn, 1), (53, .aload_n 2, 1), (54, .invokevirtual 45, 3), (57, .iload_n 3, 1), (58, .isub, 1), (59, .istore 4, 2), (61, .iconst 0, 1), (62, .istore 5, 2), (64, .iload 5, 2), (66, .iload_n 3, 1), (67, .if_icmp .ge 29, 3), (70, .aload_n 2, 1), (71, .iload 4, 2), (73, .iload 5, 2), (75, .iadd, 1), (76, .aload_n 0, 1), (77, .iload_n 1, 1), (78, .iload 5, 2), (80, .iadd, 1), (81, .invokevirtual 28, 3), (84, .bipush 48, 2), (86, .isub, 1), (87, .invokevirtual 49, 3), (90, .iinc 5 1, 3), (93, .goto (-29), 3), (96, .iload_n 1, 1), (97, .iload_n 3, 1), (98, .iadd, 1), (99, .iconst 1, 1), (100, .iadd, 1), (101, .ireturn, 1)] = true := by decide +kernel
theorem dX7_readRow_0 : decode cX7_readRow 0 = .ok (.iconst 0, 1) := dget zdX7_readRow_0 0 rfl
theorem dX7_readRow_1 : decode cX7_readRow 1 = .ok (.istore_n 3, 1) := dget zdX7_readRow_0 1 rfl
theorem dX7_readRow_2 : decode cX7_readRow 2 = .ok (.iload_n 3, 1) := dget zdX7_readRow_0 2 rfl
theorem dX7_readRow_3 : decode cX7_readRow 3 = .ok (.bipush 6, 2) := dget zdX7_readRow_0 3 rfl
theorem dX7_readRow_5 : decode cX7_readRow 5 = .ok (.if_icmp .gt 25, 3) := dget zdX7_readRow_0 4 rfl
theorem dX7_readRow_8 : decode cX7_readRow 8 = .ok (.aload_n 0, 1) := dget zdX7_readRow_0 5 rfl
theorem dX7_readRow_9 : decode cX7_readRow 9 = .ok (.iload_n 1, 1) := dget zdX7_readRow_0 6 rfl
theorem dX7_readRow_10 : decode cX7_readRow 10 = .ok (.iload_n 3, 1) := dget zdX7_readRow_0 7 rfl
theorem dX7_readRow_11 : decode cX7_readRow 11 = .ok (.iadd, 1) := dget zdX7_readRow_0 8 rfl
theorem dX7_readRow_12 : decode cX7_readRow 12 = .ok (.invokevirtual 28, 3) := dget zdX7_readRow_0 9 rfl
theorem dX7_readRow_15 : decode cX7_readRow 15 = .ok (.bipush 48, 2) := dget zdX7_readRow_0 10 rfl
theorem dX7_readRow_17 : decode cX7_readRow 17 = .ok (.isub, 1) := dget zdX7_readRow_0 11 rfl
theorem dX7_readRow_18 : decode cX7_readRow 18 = .ok (.invokestatic 38, 3) := dget zdX7_readRow_0 12 rfl
theorem dX7_readRow_21 : decode cX7_readRow 21 = .ok (.ifCond .eq 9, 3) := dget zdX7_readRow_0 13 rfl
theorem dX7_readRow_24 : decode cX7_readRow 24 = .ok (.iinc 3 1, 3) := dget zdX7_readRow_0 14 rfl
theorem dX7_readRow_27 : decode cX7_readRow 27 = .ok (.goto (-25), 3) := dget zdX7_readRow_0 15 rfl
theorem dX7_readRow_30 : decode cX7_readRow 30 = .ok (.aload_n 0, 1) := dget zdX7_readRow_0 16 rfl
theorem dX7_readRow_31 : decode cX7_readRow 31 = .ok (.iload_n 1, 1) := dget zdX7_readRow_0 17 rfl
theorem dX7_readRow_32 : decode cX7_readRow 32 = .ok (.iload_n 3, 1) := dget zdX7_readRow_0 18 rfl
theorem dX7_readRow_33 : decode cX7_readRow 33 = .ok (.iadd, 1) := dget zdX7_readRow_0 19 rfl
theorem dX7_readRow_34 : decode cX7_readRow 34 = .ok (.invokevirtual 28, 3) := dget zdX7_readRow_0 20 rfl
theorem dX7_readRow_37 : decode cX7_readRow 37 = .ok (.bipush 59, 2) := dget zdX7_readRow_0 21 rfl
theorem dX7_readRow_39 : decode cX7_readRow 39 = .ok (.if_icmp .ne 11, 3) := dget zdX7_readRow_0 22 rfl
theorem dX7_readRow_42 : decode cX7_readRow 42 = .ok (.aload_n 2, 1) := dget zdX7_readRow_0 23 rfl
theorem dX7_readRow_43 : decode cX7_readRow 43 = .ok (.iload_n 3, 1) := dget zdX7_readRow_0 24 rfl
theorem dX7_readRow_44 : decode cX7_readRow 44 = .ok (.invokevirtual 42, 3) := dget zdX7_readRow_0 25 rfl
theorem dX7_readRow_47 : decode cX7_readRow 47 = .ok (.ifCond .ne 6, 3) := dget zdX7_readRow_0 26 rfl
theorem dX7_readRow_50 : decode cX7_readRow 50 = .ok (.bipush (-4), 2) := dget zdX7_readRow_0 27 rfl
theorem dX7_readRow_52 : decode cX7_readRow 52 = .ok (.ireturn, 1) := dget zdX7_readRow_0 28 rfl
theorem dX7_readRow_53 : decode cX7_readRow 53 = .ok (.aload_n 2, 1) := dget zdX7_readRow_0 29 rfl
theorem dX7_readRow_54 : decode cX7_readRow 54 = .ok (.invokevirtual 45, 3) := dget zdX7_readRow_0 30 rfl
theorem dX7_readRow_57 : decode cX7_readRow 57 = .ok (.iload_n 3, 1) := dget zdX7_readRow_0 31 rfl
theorem dX7_readRow_58 : decode cX7_readRow 58 = .ok (.isub, 1) := dget zdX7_readRow_0 32 rfl
theorem dX7_readRow_59 : decode cX7_readRow 59 = .ok (.istore 4, 2) := dget zdX7_readRow_0 33 rfl
theorem dX7_readRow_61 : decode cX7_readRow 61 = .ok (.iconst 0, 1) := dget zdX7_readRow_0 34 rfl
theorem dX7_readRow_62 : decode cX7_readRow 62 = .ok (.istore 5, 2) := dget zdX7_readRow_0 35 rfl
theorem dX7_readRow_64 : decode cX7_readRow 64 = .ok (.iload 5, 2) := dget zdX7_readRow_0 36 rfl
theorem dX7_readRow_66 : decode cX7_readRow 66 = .ok (.iload_n 3, 1) := dget zdX7_readRow_0 37 rfl
theorem dX7_readRow_67 : decode cX7_readRow 67 = .ok (.if_icmp .ge 29, 3) := dget zdX7_readRow_0 38 rfl
theorem dX7_readRow_70 : decode cX7_readRow 70 = .ok (.aload_n 2, 1) := dget zdX7_readRow_0 39 rfl
theorem dX7_readRow_71 : decode cX7_readRow 71 = .ok (.iload 4, 2) := dget zdX7_readRow_0 40 rfl
theorem dX7_readRow_73 : decode cX7_readRow 73 = .ok (.iload 5, 2) := dget zdX7_readRow_0 41 rfl
theorem dX7_readRow_75 : decode cX7_readRow 75 = .ok (.iadd, 1) := dget zdX7_readRow_0 42 rfl
theorem dX7_readRow_76 : decode cX7_readRow 76 = .ok (.aload_n 0, 1) := dget zdX7_readRow_0 43 rfl
theorem dX7_readRow_77 : decode cX7_readRow 77 = .ok (.iload_n 1, 1) := dget zdX7_readRow_0 44 rfl
theorem dX7_readRow_78 : decode cX7_readRow 78 = .ok (.iload 5, 2) := dget zdX7_readRow_0 45 rfl
theorem dX7_readRow_80 : decode cX7_readRow 80 = .ok (.iadd, 1) := dget zdX7_readRow_0 46 rfl
theorem dX7_readRow_81 : decode cX7_readRow 81 = .ok (.invokevirtual 28, 3) := dget zdX7_readRow_0 47 rfl
theorem dX7_readRow_84 : decode cX7_readRow 84 = .ok (.bipush 48, 2) := dget zdX7_readRow_0 48 rfl
theorem dX7_readRow_86 : decode cX7_readRow 86 = .ok (.isub, 1) := dget zdX7_readRow_0 49 rfl
theorem dX7_readRow_87 : decode cX7_readRow 87 = .ok (.invokevirtual 49, 3) := dget zdX7_readRow_0 50 rfl
theorem dX7_readRow_90 : decode cX7_readRow 90 = .ok (.iinc 5 1, 3) := dget zdX7_readRow_0 51 rfl
theorem dX7_readRow_93 : decode cX7_readRow 93 = .ok (.goto (-29), 3) := dget zdX7_readRow_0 52 rfl
theorem dX7_readRow_96 : decode cX7_readRow 96 = .ok (.iload_n 1, 1) := dget zdX7_readRow_0 53 rfl
theorem dX7_readRow_97 : decode cX7_readRow 97 = .ok (.iload_n 3, 1) := dget zdX7_readRow_0 54 rfl
theorem dX7_readRow_98 : decode cX7_readRow 98 = .ok (.iadd, 1) := dget zdX7_readRow_0 55 rfl
theorem dX7_readRow_99 : decode cX7_readRow 99 = .ok (.iconst 1, 1) := dget zdX7_readRow_0 56 rfl
theorem dX7_readRow_100 : decode cX7_readRow 100 = .ok (.iadd, 1) := dget zdX7_readRow_0 57 rfl
theorem dX7_readRow_101 : decode cX7_readRow 101 = .ok (.ireturn, 1) := dget zdX7_readRow_0 58 rfl
theorem zdX7_readOwner_0 : dchk cX7_readOwner [(0, .aload_n 0, 1), (1, .iload_n 1, 1), (2, .invokevirtual 53, 3), (5, .istore_n 3, 1), (6, .aload_n 0, 1), (7, .iload_n 3, 1), (8, .iconst 1, 1), (9, .iadd, 1), (10, .invokevirtual 53, 3), (13, .istore 4, 2), (15, .iload_n 3, 1), (16, .iload_n 1, 1), (17, .if_icmp .eq 11, 3), (20, .iload 4, 2), (22, .iload_n 3, 1), (23, .iconst 1, 1), (24, .iadd, 1), (25, .if_icmp .ne 6, 3), (28, .bipush (-4), 2), (30, .ireturn, 1), (31, .aload_n 0, 1), (32, .iload_n 3, 1), (33, .invokevirtual 28, 3), (36, .bipush 44, 2), (38, .if_icmp .ne 14, 3), (41, .aload_n 0, 1), (42, .iload 4, 2), (44, .invokevirtual 28, 3), (47, .bipush 59, 2), (49, .if_icmp .eq 6, 3), (52, .bipush (-4), 2), (54, .ireturn, 1), (55, .aload_n 0, 1), (56, .iload_n 1, 1), (57, .iload_n 3, 1), (58, .invokevirtual 56, 3), (61, .istore 5, 2), (63, .aload_n 0, 1), (64, .iload_n 3, 1), (65, .iconst 1, 1), (66, .iadd, 1), (67, .iload 4, 2), (69, .invokevirtual 56, 3), (72, .istore 6, 2), (74, .aload_n 2, 1), (75, .iload 5, 2), (77, .invokevirtual 60, 3), (80, .ifCond .eq 11, 3), (83, .iload 6, 2), (85, .invokestatic 63, 3), (88, .ifCond .ne 6, 3), (91, .bipush (-4), 2), (93, .ireturn, 1), (94, .aload_n 2, 1), (95, .iload 5, 2), (97, .iload 6, 2), (99, .invokevirtual 66, 3), (102, .iload 4, 2), (104, .iconst 1, 1), (105, .iadd, 1), (106, .ireturn, 1)] = true := by decide +kernel
theorem dX7_readOwner_0 : decode cX7_readOwner 0 = .ok (.aload_n 0, 1) := dget zdX7_readOwner_0 0 rfl
theorem dX7_readOwner_1 : decode cX7_readOwner 1 = .ok (.iload_n 1, 1) := dget zdX7_readOwner_0 1 rfl
theorem dX7_readOwner_2 : decode cX7_readOwner 2 = .ok (.invokevirtual 53, 3) := dget zdX7_readOwner_0 2 rfl
theorem dX7_readOwner_5 : decode cX7_readOwner 5 = .ok (.istore_n 3, 1) := dget zdX7_readOwner_0 3 rfl
theorem dX7_readOwner_6 : decode cX7_readOwner 6 = .ok (.aload_n 0, 1) := dget zdX7_readOwner_0 4 rfl
theorem dX7_readOwner_7 : decode cX7_readOwner 7 = .ok (.iload_n 3, 1) := dget zdX7_readOwner_0 5 rfl
theorem dX7_readOwner_8 : decode cX7_readOwner 8 = .ok (.iconst 1, 1) := dget zdX7_readOwner_0 6 rfl
theorem dX7_readOwner_9 : decode cX7_readOwner 9 = .ok (.iadd, 1) := dget zdX7_readOwner_0 7 rfl
theorem dX7_readOwner_10 : decode cX7_readOwner 10 = .ok (.invokevirtual 53, 3) := dget zdX7_readOwner_0 8 rfl
theorem dX7_readOwner_13 : decode cX7_readOwner 13 = .ok (.istore 4, 2) := dget zdX7_readOwner_0 9 rfl
theorem dX7_readOwner_15 : decode cX7_readOwner 15 = .ok (.iload_n 3, 1) := dget zdX7_readOwner_0 10 rfl
theorem dX7_readOwner_16 : decode cX7_readOwner 16 = .ok (.iload_n 1, 1) := dget zdX7_readOwner_0 11 rfl
theorem dX7_readOwner_17 : decode cX7_readOwner 17 = .ok (.if_icmp .eq 11, 3) := dget zdX7_readOwner_0 12 rfl
theorem dX7_readOwner_20 : decode cX7_readOwner 20 = .ok (.iload 4, 2) := dget zdX7_readOwner_0 13 rfl
theorem dX7_readOwner_22 : decode cX7_readOwner 22 = .ok (.iload_n 3, 1) := dget zdX7_readOwner_0 14 rfl
theorem dX7_readOwner_23 : decode cX7_readOwner 23 = .ok (.iconst 1, 1) := dget zdX7_readOwner_0 15 rfl
theorem dX7_readOwner_24 : decode cX7_readOwner 24 = .ok (.iadd, 1) := dget zdX7_readOwner_0 16 rfl
theorem dX7_readOwner_25 : decode cX7_readOwner 25 = .ok (.if_icmp .ne 6, 3) := dget zdX7_readOwner_0 17 rfl
theorem dX7_readOwner_28 : decode cX7_readOwner 28 = .ok (.bipush (-4), 2) := dget zdX7_readOwner_0 18 rfl
theorem dX7_readOwner_30 : decode cX7_readOwner 30 = .ok (.ireturn, 1) := dget zdX7_readOwner_0 19 rfl
theorem dX7_readOwner_31 : decode cX7_readOwner 31 = .ok (.aload_n 0, 1) := dget zdX7_readOwner_0 20 rfl
theorem dX7_readOwner_32 : decode cX7_readOwner 32 = .ok (.iload_n 3, 1) := dget zdX7_readOwner_0 21 rfl
theorem dX7_readOwner_33 : decode cX7_readOwner 33 = .ok (.invokevirtual 28, 3) := dget zdX7_readOwner_0 22 rfl
theorem dX7_readOwner_36 : decode cX7_readOwner 36 = .ok (.bipush 44, 2) := dget zdX7_readOwner_0 23 rfl
theorem dX7_readOwner_38 : decode cX7_readOwner 38 = .ok (.if_icmp .ne 14, 3) := dget zdX7_readOwner_0 24 rfl
theorem dX7_readOwner_41 : decode cX7_readOwner 41 = .ok (.aload_n 0, 1) := dget zdX7_readOwner_0 25 rfl
theorem dX7_readOwner_42 : decode cX7_readOwner 42 = .ok (.iload 4, 2) := dget zdX7_readOwner_0 26 rfl
theorem dX7_readOwner_44 : decode cX7_readOwner 44 = .ok (.invokevirtual 28, 3) := dget zdX7_readOwner_0 27 rfl
theorem dX7_readOwner_47 : decode cX7_readOwner 47 = .ok (.bipush 59, 2) := dget zdX7_readOwner_0 28 rfl
theorem dX7_readOwner_49 : decode cX7_readOwner 49 = .ok (.if_icmp .eq 6, 3) := dget zdX7_readOwner_0 29 rfl
theorem dX7_readOwner_52 : decode cX7_readOwner 52 = .ok (.bipush (-4), 2) := dget zdX7_readOwner_0 30 rfl
theorem dX7_readOwner_54 : decode cX7_readOwner 54 = .ok (.ireturn, 1) := dget zdX7_readOwner_0 31 rfl
theorem dX7_readOwner_55 : decode cX7_readOwner 55 = .ok (.aload_n 0, 1) := dget zdX7_readOwner_0 32 rfl
theorem dX7_readOwner_56 : decode cX7_readOwner 56 = .ok (.iload_n 1, 1) := dget zdX7_readOwner_0 33 rfl
theorem dX7_readOwner_57 : decode cX7_readOwner 57 = .ok (.iload_n 3, 1) := dget zdX7_readOwner_0 34 rfl
theorem dX7_readOwner_58 : decode cX7_readOwner 58 = .ok (.invokevirtual 56, 3) := dget zdX7_readOwner_0 35 rfl
theorem dX7_readOwner_61 : decode cX7_readOwner 61 = .ok (.istore 5, 2) := dget zdX7_readOwner_0 36 rfl
theorem dX7_readOwner_63 : decode cX7_readOwner 63 = .ok (.aload_n 0, 1) := dget zdX7_readOwner_0 37 rfl
theorem dX7_readOwner_64 : decode cX7_readOwner 64 = .ok (.iload_n 3, 1) := dget zdX7_readOwner_0 38 rfl
theorem dX7_readOwner_65 : decode cX7_readOwner 65 = .ok (.iconst 1, 1) := dget zdX7_readOwner_0 39 rfl
theorem dX7_readOwner_66 : decode cX7_readOwner 66 = .ok (.iadd, 1) := dget zdX7_readOwner_0 40 rfl
theorem dX7_readOwner_67 : decode cX7_readOwner 67 = .ok (.iload 4, 2) := dget zdX7_readOwner_0 41 rfl
theorem dX7_readOwner_69 : decode cX7_readOwner 69 = .ok (.invokevirtual 56, 3) := dget zdX7_readOwner_0 42 rfl
theorem dX7_readOwner_72 : decode cX7_readOwner 72 = .ok (.istore 6, 2) := dget zdX7_readOwner_0 43 rfl
theorem dX7_readOwner_74 : decode cX7_readOwner 74 = .ok (.aload_n 2, 1) := dget zdX7_readOwner_0 44 rfl
theorem dX7_readOwner_75 : decode cX7_readOwner 75 = .ok (.iload 5, 2) := dget zdX7_readOwner_0 45 rfl
theorem dX7_readOwner_77 : decode cX7_readOwner 77 = .ok (.invokevirtual 60, 3) := dget zdX7_readOwner_0 46 rfl
theorem dX7_readOwner_80 : decode cX7_readOwner 80 = .ok (.ifCond .eq 11, 3) := dget zdX7_readOwner_0 47 rfl
theorem dX7_readOwner_83 : decode cX7_readOwner 83 = .ok (.iload 6, 2) := dget zdX7_readOwner_0 48 rfl
theorem dX7_readOwner_85 : decode cX7_readOwner 85 = .ok (.invokestatic 63, 3) := dget zdX7_readOwner_0 49 rfl
theorem dX7_readOwner_88 : decode cX7_readOwner 88 = .ok (.ifCond .ne 6, 3) := dget zdX7_readOwner_0 50 rfl
theorem dX7_readOwner_91 : decode cX7_readOwner 91 = .ok (.bipush (-4), 2) := dget zdX7_readOwner_0 51 rfl
theorem dX7_readOwner_93 : decode cX7_readOwner 93 = .ok (.ireturn, 1) := dget zdX7_readOwner_0 52 rfl
theorem dX7_readOwner_94 : decode cX7_readOwner 94 = .ok (.aload_n 2, 1) := dget zdX7_readOwner_0 53 rfl
theorem dX7_readOwner_95 : decode cX7_readOwner 95 = .ok (.iload 5, 2) := dget zdX7_readOwner_0 54 rfl
theorem dX7_readOwner_97 : decode cX7_readOwner 97 = .ok (.iload 6, 2) := dget zdX7_readOwner_0 55 rfl
theorem dX7_readOwner_99 : decode cX7_readOwner 99 = .ok (.invokevirtual 66, 3) := dget zdX7_readOwner_0 56 rfl
theorem dX7_readOwner_102 : decode cX7_readOwner 102 = .ok (.iload 4, 2) := dget zdX7_readOwner_0 57 rfl
theorem dX7_readOwner_104 : decode cX7_readOwner 104 = .ok (.iconst 1, 1) := dget zdX7_readOwner_0 58 rfl
theorem dX7_readOwner_105 : decode cX7_readOwner 105 = .ok (.iadd, 1) := dget zdX7_readOwner_0 59 rfl
theorem dX7_readOwner_106 : decode cX7_readOwner 106 = .ok (.ireturn, 1) := dget zdX7_readOwner_0 60 rfl
theorem zdX7_behindNumber_0 : dchk cX7_behindNumber [(0, .aload_n 0, 1), (1, .iload_n 1, 1), (2, .invokevirtual 28, 3), (5, .invokestatic 69, 3), (8, .ifCond .ne 5, 3), (11, .iload_n 1, 1), (12, .ireturn, 1), (13, .aload_n 0, 1), (14, .iload_n 1, 1), (15, .iconst 1, 1), (16, .iadd, 1), (17, .invokevirtual 28, 3), (20, .invokestatic 69, 3), (23, .ifCond .eq 9, 3), (26, .iload_n 1, 1), (27, .iconst 2, 1), (28, .iadd, 1), (29, .goto 6, 3), (32, .iload_n 1, 1), (33, .iconst 1, 1), (34, .iadd, 1), (35, .ireturn, 1)] = true := by decide +kernel
theorem dX7_behindNumber_0 : decode cX7_behindNumber 0 = .ok (.aload_n 0, 1) := dget zdX7_behindNumber_0 0 rfl
theorem dX7_behindNumber_1 : decode cX7_behindNumber 1 = .ok (.iload_n 1, 1) := dget zdX7_behindNumber_0 1 rfl
theorem dX7_behindNumber_2 : decode cX7_behindNumber 2 = .ok (.invokevirtual 28, 3) := dget zdX7_behindNumber_0 2 rfl
theorem dX7_behindNumber_5 : decode cX7_behindNumber 5 = .ok (.invokestatic 69, 3) := dget zdX7_behindNumber_0 3 rfl
theorem dX7_behindNumber_8 : decode cX7_behindNumber 8 = .ok (.ifCond .ne 5, 3) := dget zdX7_behindNumber_0 4 rfl
theorem dX7_behindNumber_11 : decode cX7_behindNumber 11 = .ok (.iload_n 1, 1) := dget zdX7_behindNumber_0 5 rfl
theorem dX7_behindNumber_12 : decode cX7_behindNumber 12 = .ok (.ireturn, 1) := dget zdX7_behindNumber_0 6 rfl
theorem dX7_behindNumber_13 : decode cX7_behindNumber 13 = .ok (.aload_n 0, 1) := dget zdX7_behindNumber_0 7 rfl
theorem dX7_behindNumber_14 : decode cX7_behindNumber 14 = .ok (.iload_n 1, 1) := dget zdX7_behindNumber_0 8 rfl
theorem dX7_behindNumber_15 : decode cX7_behindNumber 15 = .ok (.iconst 1, 1) := dget zdX7_behindNumber_0 9 rfl
theorem dX7_behindNumber_16 : decode cX7_behindNumber 16 = .ok (.iadd, 1) := dget zdX7_behindNumber_0 10 rfl
theorem dX7_behindNumber_17 : decode cX7_behindNumber 17 = .ok (.invokevirtual 28, 3) := dget zdX7_behindNumber_0 11 rfl
theorem dX7_behindNumber_20 : decode cX7_behindNumber 20 = .ok (.invokestatic 69, 3) := dget zdX7_behindNumber_0 12 rfl
theorem dX7_behindNumber_23 : decode cX7_behindNumber 23 = .ok (.ifCond .eq 9, 3) := dget zdX7_behindNumber_0 13 rfl
theorem dX7_behindNumber_26 : decode cX7_behindNumber 26 = .ok (.iload_n 1, 1) := dget zdX7_behindNumber_0 14 rfl
theorem dX7_behindNumber_27 : decode cX7_behindNumber 27 = .ok (.iconst 2, 1) := dget zdX7_behindNumber_0 15 rfl
theorem dX7_behindNumber_28 : decode cX7_behindNumber 28 = .ok (.iadd, 1) := dget zdX7_behindNumber_0 16 rfl
theorem dX7_behindNumber_29 : decode cX7_behindNumber 29 = .ok (.goto 6, 3) := dget zdX7_behindNumber_0 17 rfl
theorem dX7_behindNumber_32 : decode cX7_behindNumber 32 = .ok (.iload_n 1, 1) := dget zdX7_behindNumber_0 18 rfl
theorem dX7_behindNumber_33 : decode cX7_behindNumber 33 = .ok (.iconst 1, 1) := dget zdX7_behindNumber_0 19 rfl
theorem dX7_behindNumber_34 : decode cX7_behindNumber 34 = .ok (.iadd, 1) := dget zdX7_behindNumber_0 20 rfl
theorem dX7_behindNumber_35 : decode cX7_behindNumber 35 = .ok (.ireturn, 1) := dget zdX7_behindNumber_0 21 rfl
theorem zdX7_numberIn_0 : dchk cX7_numberIn [(0, .iconst 0, 1), (1, .istore_n 3, 1), (2, .iload_n 1, 1), (3, .istore 4, 2), (5, .iload 4, 2), (7, .iload_n 2, 1), (8, .if_icmp .ge 24, 3), (11, .bipush 10, 2), (13, .iload_n 3, 1), (14, .imul, 1), (15, .aload_n 0, 1), (16, .iload 4, 2), (18, .invokevirtual 28, 3), (21, .iadd, 1), (22, .bipush 48, 2), (24, .isub, 1), (25, .istore_n 3, 1), (26, .iinc 4 1, 3), (29, .goto (-24), 3), (32, .iload_n 3, 1), (33, .ireturn, 1)] = true := by decide +kernel
theorem dX7_numberIn_0 : decode cX7_numberIn 0 = .ok (.iconst 0, 1) := dget zdX7_numberIn_0 0 rfl
theorem dX7_numberIn_1 : decode cX7_numberIn 1 = .ok (.istore_n 3, 1) := dget zdX7_numberIn_0 1 rfl
theorem dX7_numberIn_2 : decode cX7_numberIn 2 = .ok (.iload_n 1, 1) := dget zdX7_numberIn_0 2 rfl
theorem dX7_numberIn_3 : decode cX7_numberIn 3 = .ok (.istore 4, 2) := dget zdX7_numberIn_0 3 rfl
theorem dX7_numberIn_5 : decode cX7_numberIn 5 = .ok (.iload 4, 2) := dget zdX7_numberIn_0 4 rfl
theorem dX7_numberIn_7 : decode cX7_numberIn 7 = .ok (.iload_n 2, 1) := dget zdX7_numberIn_0 5 rfl
theorem dX7_numberIn_8 : decode cX7_numberIn 8 = .ok (.if_icmp .ge 24, 3) := dget zdX7_numberIn_0 6 rfl
theorem dX7_numberIn_11 : decode cX7_numberIn 11 = .ok (.bipush 10, 2) := dget zdX7_numberIn_0 7 rfl
theorem dX7_numberIn_13 : decode cX7_numberIn 13 = .ok (.iload_n 3, 1) := dget zdX7_numberIn_0 8 rfl
theorem dX7_numberIn_14 : decode cX7_numberIn 14 = .ok (.imul, 1) := dget zdX7_numberIn_0 9 rfl
theorem dX7_numberIn_15 : decode cX7_numberIn 15 = .ok (.aload_n 0, 1) := dget zdX7_numberIn_0 10 rfl
theorem dX7_numberIn_16 : decode cX7_numberIn 16 = .ok (.iload 4, 2) := dget zdX7_numberIn_0 11 rfl
theorem dX7_numberIn_18 : decode cX7_numberIn 18 = .ok (.invokevirtual 28, 3) := dget zdX7_numberIn_0 12 rfl
theorem dX7_numberIn_21 : decode cX7_numberIn 21 = .ok (.iadd, 1) := dget zdX7_numberIn_0 13 rfl
theorem dX7_numberIn_22 : decode cX7_numberIn 22 = .ok (.bipush 48, 2) := dget zdX7_numberIn_0 14 rfl
theorem dX7_numberIn_24 : decode cX7_numberIn 24 = .ok (.isub, 1) := dget zdX7_numberIn_0 15 rfl
theorem dX7_numberIn_25 : decode cX7_numberIn 25 = .ok (.istore_n 3, 1) := dget zdX7_numberIn_0 16 rfl
theorem dX7_numberIn_26 : decode cX7_numberIn 26 = .ok (.iinc 4 1, 3) := dget zdX7_numberIn_0 17 rfl
theorem dX7_numberIn_29 : decode cX7_numberIn 29 = .ok (.goto (-24), 3) := dget zdX7_numberIn_0 18 rfl
theorem dX7_numberIn_32 : decode cX7_numberIn 32 = .ok (.iload_n 3, 1) := dget zdX7_numberIn_0 19 rfl
theorem dX7_numberIn_33 : decode cX7_numberIn 33 = .ok (.ireturn, 1) := dget zdX7_numberIn_0 20 rfl
theorem zdX7_isFigure_0 : dchk cX7_isFigure [(0, .iload_n 0, 1), (1, .bipush 48, 2), (3, .if_icmp .lt 13, 3), (6, .iload_n 0, 1), (7, .bipush 57, 2), (9, .if_icmp .gt 7, 3), (12, .iconst 1, 1), (13, .goto 4, 3), (16, .iconst 0, 1), (17, .ireturn, 1)] = true := by decide +kernel
theorem dX7_isFigure_0 : decode cX7_isFigure 0 = .ok (.iload_n 0, 1) := dget zdX7_isFigure_0 0 rfl
theorem dX7_isFigure_1 : decode cX7_isFigure 1 = .ok (.bipush 48, 2) := dget zdX7_isFigure_0 1 rfl
theorem dX7_isFigure_3 : decode cX7_isFigure 3 = .ok (.if_icmp .lt 13, 3) := dget zdX7_isFigure_0 2 rfl
theorem dX7_isFigure_6 : decode cX7_isFigure 6 = .ok (.iload_n 0, 1) := dget zdX7_isFigure_0 3 rfl
theorem dX7_isFigure_7 : decode cX7_isFigure 7 = .ok (.bipush 57, 2) := dget zdX7_isFigure_0 4 rfl
theorem dX7_isFigure_9 : decode cX7_isFigure 9 = .ok (.if_icmp .gt 7, 3) := dget zdX7_isFigure_0 5 rfl
theorem dX7_isFigure_12 : decode cX7_isFigure 12 = .ok (.iconst 1, 1) := dget zdX7_isFigure_0 6 rfl
theorem dX7_isFigure_13 : decode cX7_isFigure 13 = .ok (.goto 4, 3) := dget zdX7_isFigure_0 7 rfl
theorem dX7_isFigure_16 : decode cX7_isFigure 16 = .ok (.iconst 0, 1) := dget zdX7_isFigure_0 8 rfl
theorem dX7_isFigure_17 : decode cX7_isFigure 17 = .ok (.ireturn, 1) := dget zdX7_isFigure_0 9 rfl
theorem zdX8_init_0 : dchk cX8_init [(0, .aload_n 0, 1), (1, .invokespecial 3, 3), (4, .aload_n 0, 1), (5, .new 9, 3), (8, .dup, 1), (9, .invokespecial 11, 3), (12, .putfield 12, 3), (15, .aload_n 0, 1), (16, .new 16, 3), (19, .dup, 1), (20, .invokespecial 18, 3), (23, .putfield 19, 3), (26, .aload_n 0, 1), (27, .new 16, 3), (30, .dup, 1), (31, .invokespecial 18, 3), (34, .putfield 23, 3), (37, .aload_n 0, 1), (38, .new 26, 3), (41, .dup, 1), (42, .bipush 8, 2), (44, .invokespecial 28, 3), (47, .putfield 31, 3), (50, .aload_n 0, 1), (51, .new 26, 3), (54, .dup, 1), (55, .iconst 2, 1), (56, .invokespecial 28, 3), (59, .putfield 35, 3), (62, .aload_n 0, 1), (63, .new 38, 3), (66, .dup, 1), (67, .invokespecial 40, 3), (70, .putfield 41, 3), (73, .aload_n 0, 1), (74, .new 45, 3), (77, .dup, 1), (78, .invokespecial 47, 3), (81, .putfield 48, 3), (84, .aload_n 0, 1), (85, .new 52, 3), (88, .dup, 1), (89, .invokespecial 54, 3), (92, .putfield 55, 3), (95, .aload_n 0, 1), (96, .new 59, 3), (99, .dup, 1), (100, .invokespecial 61, 3), (103, .putfield 62, 3), (106, .aload_n 0, 1), (107, .new 66, 3), (110, .dup, 1), (111, .invokespecial 68, 3), (114, .putfield 69, 3), (117, .iconst 0, 1), (118, .istore_n 1, 1), (119, .iload_n 1, 1), (120, .ldc 73, 2), (122, .invokevirtual 75, 3), (125, .if_icmp .ge 23, 3), (128, .aload_n 0, 1), (129, .getfield 12, 3), (132, .ldc 73, 2), (134, .iload_n 1, 1), (135, .invokevirtual 81, 3), (138, .invokevirtual 85, 3), (141, .pop, 1), (142, .iinc 1 1, 3), (145, .goto (-26), 3), (148, .aload_n 0, 1), (149, .getfield 12, 3), (152, .aload_n 0, 1), (153, .getfield 23, 3), (156, .invokevirtual 89, 3), (159, .pop, 1), (160, .aload_n 0, 1), (161, .getfield 19, 3), (164, .aload_n 0, 1), (165, .getfield 23, 3), (168, .invokevirtual 93, 3), (171, .aload_n 0, 1), (172, .getfield 12, 3), (175, .invokevirtual 97, 3), (178, .return_, 1)] = true := by decide +kernel
theorem dX8_init_0 : decode cX8_init 0 = .ok (.aload_n 0, 1) := dget zdX8_init_0 0 rfl
theorem dX8_init_1 : decode cX8_init 1 = .ok (.invokespecial 3, 3) := dget zdX8_init_0 1 rfl
theorem dX8_init_4 : decode cX8_init 4 = .ok (.aload_n 0, 1) := dget zdX8_init_0 2 rfl
theorem dX8_init_5 : decode cX8_init 5 = .ok (.new 9, 3) := dget zdX8_init_0 3 rfl
theorem dX8_init_8 : decode cX8_init 8 = .ok (.dup, 1) := dget zdX8_init_0 4 rfl
theorem dX8_init_9 : decode cX8_init 9 = .ok (.invokespecial 11, 3) := dget zdX8_init_0 5 rfl
theorem dX8_init_12 : decode cX8_init 12 = .ok (.putfield 12, 3) := dget zdX8_init_0 6 rfl
theorem dX8_init_15 : decode cX8_init 15 = .ok (.aload_n 0, 1) := dget zdX8_init_0 7 rfl
theorem dX8_init_16 : decode cX8_init 16 = .ok (.new 16, 3) := dget zdX8_init_0 8 rfl
theorem dX8_init_19 : decode cX8_init 19 = .ok (.dup, 1) := dget zdX8_init_0 9 rfl
theorem dX8_init_20 : decode cX8_init 20 = .ok (.invokespecial 18, 3) := dget zdX8_init_0 10 rfl
theorem dX8_init_23 : decode cX8_init 23 = .ok (.putfield 19, 3) := dget zdX8_init_0 11 rfl
theorem dX8_init_26 : decode cX8_init 26 = .ok (.aload_n 0, 1) := dget zdX8_init_0 12 rfl
theorem dX8_init_27 : decode cX8_init 27 = .ok (.new 16, 3) := dget zdX8_init_0 13 rfl
theorem dX8_init_30 : decode cX8_init 30 = .ok (.dup, 1) := dget zdX8_init_0 14 rfl
theorem dX8_init_31 : decode cX8_init 31 = .ok (.invokespecial 18, 3) := dget zdX8_init_0 15 rfl
theorem dX8_init_34 : decode cX8_init 34 = .ok (.putfield 23, 3) := dget zdX8_init_0 16 rfl
theorem dX8_init_37 : decode cX8_init 37 = .ok (.aload_n 0, 1) := dget zdX8_init_0 17 rfl
theorem dX8_init_38 : decode cX8_init 38 = .ok (.new 26, 3) := dget zdX8_init_0 18 rfl
theorem dX8_init_41 : decode cX8_init 41 = .ok (.dup, 1) := dget zdX8_init_0 19 rfl
theorem dX8_init_42 : decode cX8_init 42 = .ok (.bipush 8, 2) := dget zdX8_init_0 20 rfl
theorem dX8_init_44 : decode cX8_init 44 = .ok (.invokespecial 28, 3) := dget zdX8_init_0 21 rfl
theorem dX8_init_47 : decode cX8_init 47 = .ok (.putfield 31, 3) := dget zdX8_init_0 22 rfl
theorem dX8_init_50 : decode cX8_init 50 = .ok (.aload_n 0, 1) := dget zdX8_init_0 23 rfl
theorem dX8_init_51 : decode cX8_init 51 = .ok (.new 26, 3) := dget zdX8_init_0 24 rfl
theorem dX8_init_54 : decode cX8_init 54 = .ok (.dup, 1) := dget zdX8_init_0 25 rfl
theorem dX8_init_55 : decode cX8_init 55 = .ok (.iconst 2, 1) := dget zdX8_init_0 26 rfl
theorem dX8_init_56 : decode cX8_init 56 = .ok (.invokespecial 28, 3) := dget zdX8_init_0 27 rfl
theorem dX8_init_59 : decode cX8_init 59 = .ok (.putfield 35, 3) := dget zdX8_init_0 28 rfl
theorem dX8_init_62 : decode cX8_init 62 = .ok (.aload_n 0, 1) := dget zdX8_init_0 29 rfl
theorem dX8_init_63 : decode cX8_init 63 = .ok (.new 38, 3) := dget zdX8_init_0 30 rfl
theorem dX8_init_66 : decode cX8_init 66 = .ok (.dup, 1) := dget zdX8_init_0 31 rfl
theorem dX8_init_67 : decode cX8_init 67 = .ok (.invokespecial 40, 3) := dget zdX8_init_0 32 rfl
theorem dX8_init_70 : decode cX8_init 70 = .ok (.putfield 41, 3) := dget zdX8_init_0 33 rfl
theorem dX8_init_73 : decode cX8_init 73 = .ok (.aload_n 0, 1) := dget zdX8_init_0 34 rfl
theorem dX8_init_74 : decode cX8_init 74 = .ok (.new 45, 3) := dget zdX8_init_0 35 rfl
theorem dX8_init_77 : decode cX8_init 77 = .ok (.dup, 1) := dget zdX8_init_0 36 rfl
theorem dX8_init_78 : decode cX8_init 78 = .ok (.invokespecial 47, 3) := dget zdX8_init_0 37 rfl
theorem dX8_init_81 : decode cX8_init 81 = .ok (.putfield 48, 3) := dget zdX8_init_0 38 rfl
theorem dX8_init_84 : decode cX8_init 84 = .ok (.aload_n 0, 1) := dget zdX8_init_0 39 rfl
theorem dX8_init_85 : decode cX8_init 85 = .ok (.new 52, 3) := dget zdX8_init_0 40 rfl
theorem dX8_init_88 : decode cX8_init 88 = .ok (.dup, 1) := dget zdX8_init_0 41 rfl
theorem dX8_init_89 : decode cX8_init 89 = .ok (.invokespecial 54, 3) := dget zdX8_init_0 42 rfl
theorem dX8_init_92 : decode cX8_init 92 = .ok (.putfield 55, 3) := dget zdX8_init_0 43 rfl
theorem dX8_init_95 : decode cX8_init 95 = .ok (.aload_n 0, 1) := dget zdX8_init_0 44 rfl
theorem dX8_init_96 : decode cX8_init 96 = .ok (.new 59, 3) := dget zdX8_init_0 45 rfl
theorem dX8_init_99 : decode cX8_init 99 = .ok (.dup, 1) := dget zdX8_init_0 46 rfl
theorem dX8_init_100 : decode cX8_init 100 = .ok (.invokespecial 61, 3) := dget zdX8_init_0 47 rfl
theorem dX8_init_103 : decode cX8_init 103 = .ok (.putfield 62, 3) := dget zdX8_init_0 48 rfl
theorem dX8_init_106 : decode cX8_init 106 = .ok (.aload_n 0, 1) := dget zdX8_init_0 49 rfl
theorem dX8_init_107 : decode cX8_init 107 = .ok (.new 66, 3) := dget zdX8_init_0 50 rfl
theorem dX8_init_110 : decode cX8_init 110 = .ok (.dup, 1) := dget zdX8_init_0 51 rfl
theorem dX8_init_111 : decode cX8_init 111 = .ok (.invokespecial 68, 3) := dget zdX8_init_0 52 rfl
theorem dX8_init_114 : decode cX8_init 114 = .ok (.putfield 69, 3) := dget zdX8_init_0 53 rfl
theorem dX8_init_117 : decode cX8_init 117 = .ok (.iconst 0, 1) := dget zdX8_init_0 54 rfl
theorem dX8_init_118 : decode cX8_init 118 = .ok (.istore_n 1, 1) := dget zdX8_init_0 55 rfl
theorem dX8_init_119 : decode cX8_init 119 = .ok (.iload_n 1, 1) := dget zdX8_init_0 56 rfl
theorem dX8_init_120 : decode cX8_init 120 = .ok (.ldc 73, 2) := dget zdX8_init_0 57 rfl
theorem dX8_init_122 : decode cX8_init 122 = .ok (.invokevirtual 75, 3) := dget zdX8_init_0 58 rfl
theorem dX8_init_125 : decode cX8_init 125 = .ok (.if_icmp .ge 23, 3) := dget zdX8_init_0 59 rfl
theorem dX8_init_128 : decode cX8_init 128 = .ok (.aload_n 0, 1) := dget zdX8_init_0 60 rfl
theorem dX8_init_129 : decode cX8_init 129 = .ok (.getfield 12, 3) := dget zdX8_init_0 61 rfl
theorem dX8_init_132 : decode cX8_init 132 = .ok (.ldc 73, 2) := dget zdX8_init_0 62 rfl
theorem dX8_init_134 : decode cX8_init 134 = .ok (.iload_n 1, 1) := dget zdX8_init_0 63 rfl
theorem dX8_init_135 : decode cX8_init 135 = .ok (.invokevirtual 81, 3) := dget zdX8_init_0 64 rfl
theorem dX8_init_138 : decode cX8_init 138 = .ok (.invokevirtual 85, 3) := dget zdX8_init_0 65 rfl
theorem dX8_init_141 : decode cX8_init 141 = .ok (.pop, 1) := dget zdX8_init_0 66 rfl
theorem dX8_init_142 : decode cX8_init 142 = .ok (.iinc 1 1, 3) := dget zdX8_init_0 67 rfl
theorem dX8_init_145 : decode cX8_init 145 = .ok (.goto (-26), 3) := dget zdX8_init_0 68 rfl
theorem dX8_init_148 : decode cX8_init 148 = .ok (.aload_n 0, 1) := dget zdX8_init_0 69 rfl
theorem dX8_init_149 : decode cX8_init 149 = .ok (.getfield 12, 3) := dget zdX8_init_0 70 rfl
theorem dX8_init_152 : decode cX8_init 152 = .ok (.aload_n 0, 1) := dget zdX8_init_0 71 rfl
theorem dX8_init_153 : decode cX8_init 153 = .ok (.getfield 23, 3) := dget zdX8_init_0 72 rfl
theorem dX8_init_156 : decode cX8_init 156 = .ok (.invokevirtual 89, 3) := dget zdX8_init_0 73 rfl
theorem dX8_init_159 : decode cX8_init 159 = .ok (.pop, 1) := dget zdX8_init_0 74 rfl
theorem dX8_init_160 : decode cX8_init 160 = .ok (.aload_n 0, 1) := dget zdX8_init_0 75 rfl
theorem dX8_init_161 : decode cX8_init 161 = .ok (.getfield 19, 3) := dget zdX8_init_0 76 rfl
theorem dX8_init_164 : decode cX8_init 164 = .ok (.aload_n 0, 1) := dget zdX8_init_0 77 rfl
theorem dX8_init_165 : decode cX8_init 165 = .ok (.getfield 23, 3) := dget zdX8_init_0 78 rfl
theorem dX8_init_168 : decode cX8_init 168 = .ok (.invokevirtual 93, 3) := dget zdX8_init_0 79 rfl
theorem dX8_init_171 : decode cX8_init 171 = .ok (.aload_n 0, 1) := dget zdX8_init_0 80 rfl
theorem dX8_init_172 : decode cX8_init 172 = .ok (.getfield 12, 3) := dget zdX8_init_0 81 rfl
theorem dX8_init_175 : decode cX8_init 175 = .ok (.invokevirtual 97, 3) := dget zdX8_init_0 82 rfl
theorem dX8_init_178 : decode cX8_init 178 = .ok (.return_, 1) := dget zdX8_init_0 83 rfl
theorem zdX8_write_0 : dchk cX8_write [(0, .iload_n 1, 1), (1, .bipush 32, 2), (3, .if_icmp .lt 9, 3), (6, .iload_n 1, 1), (7, .bipush 126, 2), (9, .if_icmp .le 5, 3), (12, .iconst (-1), 1), (13, .ireturn, 1), (14, .aload_n 0, 1), (15, .getfield 12, 3), (18, .iload_n 1, 1), (19, .invokevirtual 85, 3), (22, .ifCond .eq 13, 3), (25, .aload_n 0, 1), (26, .getfield 12, 3), (29, .getfield 100, 3), (32, .goto 5, 3), (35, .bipush (-3), 2), (37, .ireturn, 1)] = true := by decide +kernel
theorem dX8_write_0 : decode cX8_write 0 = .ok (.iload_n 1, 1) := dget zdX8_write_0 0 rfl
theorem dX8_write_1 : decode cX8_write 1 = .ok (.bipush 32, 2) := dget zdX8_write_0 1 rfl
theorem dX8_write_3 : decode cX8_write 3 = .ok (.if_icmp .lt 9, 3) := dget zdX8_write_0 2 rfl
theorem dX8_write_6 : decode cX8_write 6 = .ok (.iload_n 1, 1) := dget zdX8_write_0 3 rfl
theorem dX8_write_7 : decode cX8_write 7 = .ok (.bipush 126, 2) := dget zdX8_write_0 4 rfl
theorem dX8_write_9 : decode cX8_write 9 = .ok (.if_icmp .le 5, 3) := dget zdX8_write_0 5 rfl
theorem dX8_write_12 : decode cX8_write 12 = .ok (.iconst (-1), 1) := dget zdX8_write_0 6 rfl
theorem dX8_write_13 : decode cX8_write 13 = .ok (.ireturn, 1) := dget zdX8_write_0 7 rfl
theorem dX8_write_14 : decode cX8_write 14 = .ok (.aload_n 0, 1) := dget zdX8_write_0 8 rfl
theorem dX8_write_15 : decode cX8_write 15 = .ok (.getfield 12, 3) := dget zdX8_write_0 9 rfl
theorem dX8_write_18 : decode cX8_write 18 = .ok (.iload_n 1, 1) := dget zdX8_write_0 10 rfl
theorem dX8_write_19 : decode cX8_write 19 = .ok (.invokevirtual 85, 3) := dget zdX8_write_0 11 rfl
theorem dX8_write_22 : decode cX8_write 22 = .ok (.ifCond .eq 13, 3) := dget zdX8_write_0 12 rfl
theorem dX8_write_25 : decode cX8_write 25 = .ok (.aload_n 0, 1) := dget zdX8_write_0 13 rfl
theorem dX8_write_26 : decode cX8_write 26 = .ok (.getfield 12, 3) := dget zdX8_write_0 14 rfl
theorem dX8_write_29 : decode cX8_write 29 = .ok (.getfield 100, 3) := dget zdX8_write_0 15 rfl
theorem dX8_write_32 : decode cX8_write 32 = .ok (.goto 5, 3) := dget zdX8_write_0 16 rfl
theorem dX8_write_35 : decode cX8_write 35 = .ok (.bipush (-3), 2) := dget zdX8_write_0 17 rfl
theorem dX8_write_37 : decode cX8_write 37 = .ok (.ireturn, 1) := dget zdX8_write_0 18 rfl
theorem zdX8_wipe_0 : dchk cX8_wipe [(0, .aload_n 0, 1), (1, .getfield 12, 3), (4, .getfield 100, 3), (7, .istore_n 1, 1), (8, .aload_n 0, 1), (9, .getfield 12, 3), (12, .invokevirtual 97, 3), (15, .iload_n 1, 1), (16, .ireturn, 1)] = true := by decide +kernel
theorem dX8_wipe_0 : decode cX8_wipe 0 = .ok (.aload_n 0, 1) := dget zdX8_wipe_0 0 rfl
theorem dX8_wipe_1 : decode cX8_wipe 1 = .ok (.getfield 12, 3) := dget zdX8_wipe_0 1 rfl
theorem dX8_wipe_4 : decode cX8_wipe 4 = .ok (.getfield 100, 3) := dget zdX8_wipe_0 2 rfl
theorem dX8_wipe_7 : decode cX8_wipe 7 = .ok (.istore_n 1, 1) := dget zdX8_wipe_0 3 rfl
theorem dX8_wipe_8 : decode cX8_wipe 8 = .ok (.aload_n 0, 1) := dget zdX8_wipe_0 4 rfl
theorem dX8_wipe_9 : decode cX8_wipe 9 = .ok (.getfield 12, 3) := dget zdX8_wipe_0 5 rfl
theorem dX8_wipe_12 : decode cX8_wipe 12 = .ok (.invokevirtual 97, 3) := dget zdX8_wipe_0 6 rfl
theorem dX8_wipe_15 : decode cX8_wipe 15 = .ok (.iload_n 1, 1) := dget zdX8_wipe_0 7 rfl
theorem dX8_wipe_16 : decode cX8_wipe 16 = .ok (.ireturn, 1) := dget zdX8_wipe_0 8 rfl
theorem zdX8_fault_0 : dchk cX8_fault [(0, .aload_n 0, 1), (1, .getfield 12, 3), (4, .aload_n 0, 1), (5, .getfield 23, 3), (8, .invokevirtual 89, 3), (11, .ireturn, 1)] = true := by decide +kernel
theorem dX8_fault_0 : decode cX8_fault 0 = .ok (.aload_n 0, 1) := dget zdX8_fault_0 0 rfl
theorem dX8_fault_1 : decode cX8_fault 1 = .ok (.getfield 12, 3) := dget zdX8_fault_0 1 rfl
theorem dX8_fault_4 : decode cX8_fault 4 = .ok (.aload_n 0, 1) := dget zdX8_fault_0 2 rfl
theorem dX8_fault_5 : decode cX8_fault 5 = .ok (.getfield 23, 3) := dget zdX8_fault_0 3 rfl
theorem dX8_fault_8 : decode cX8_fault 8 = .ok (.invokevirtual 89, 3) := dget zdX8_fault_0 4 rfl
theorem dX8_fault_11 : decode cX8_fault 11 = .ok (.ireturn, 1) := dget zdX8_fault_0 5 rfl
theorem zdX8_lay_0 : dchk cX8_lay [(0, .aload_n 0, 1), (1, .getfield 12, 3), (4, .aload_n 0, 1), (5, .getfield 23, 3), (8, .invokevirtual 89, 3), (11, .bipush (-4), 2), (13, .if_icmp .ne 14, 3), (16, .aload_n 0, 1), (17, .getfield 23, 3), (20, .getfield 103, 3), (23, .iconst 2, 1), (24, .if_icmp .ge 6, 3), (27, .bipush (-2), 2), (29, .ireturn, 1), (30, .aload_n 0, 1), (31, .getfield 23, 3), (34, .aload_n 0, 1), (35, .getfield 19, 3), (38, .getfield 106, 3), (41, .putfield 106, 3), (44, .aload_n 0, 1), (45, .getfield 19, 3), (48, .aload_n 0, 1), (49, .getfield 23, 3), (52, .invokevirtual 93, 3), (55, .aload_n 0, 1), (56, .getfield 41, 3), (59, .invokevirtual 109, 3), (62, .aload_n 0, 1), (63, .getfield 31, 3), (66, .invokevirtual 110, 3), (69, .aload_n 0, 1), (70, .getfield 35, 3), (73, .invokevirtual 110, 3), (76, .aload_n 0, 1), (77, .getfield 19, 3), (80, .invokevirtual 111, 3), (83, .ireturn, 1)] = true := by decide +kernel
theorem dX8_lay_0 : decode cX8_lay 0 = .ok (.aload_n 0, 1) := dget zdX8_lay_0 0 rfl
theorem dX8_lay_1 : decode cX8_lay 1 = .ok (.getfield 12, 3) := dget zdX8_lay_0 1 rfl
theorem dX8_lay_4 : decode cX8_lay 4 = .ok (.aload_n 0, 1) := dget zdX8_lay_0 2 rfl
theorem dX8_lay_5 : decode cX8_lay 5 = .ok (.getfield 23, 3) := dget zdX8_lay_0 3 rfl
theorem dX8_lay_8 : decode cX8_lay 8 = .ok (.invokevirtual 89, 3) := dget zdX8_lay_0 4 rfl
theorem dX8_lay_11 : decode cX8_lay 11 = .ok (.bipush (-4), 2) := dget zdX8_lay_0 5 rfl
theorem dX8_lay_13 : decode cX8_lay 13 = .ok (.if_icmp .ne 14, 3) := dget zdX8_lay_0 6 rfl
theorem dX8_lay_16 : decode cX8_lay 16 = .ok (.aload_n 0, 1) := dget zdX8_lay_0 7 rfl
theorem dX8_lay_17 : decode cX8_lay 17 = .ok (.getfield 23, 3) := dget zdX8_lay_0 8 rfl
theorem dX8_lay_20 : decode cX8_lay 20 = .ok (.getfield 103, 3) := dget zdX8_lay_0 9 rfl
theorem dX8_lay_23 : decode cX8_lay 23 = .ok (.iconst 2, 1) := dget zdX8_lay_0 10 rfl
theorem dX8_lay_24 : decode cX8_lay 24 = .ok (.if_icmp .ge 6, 3) := dget zdX8_lay_0 11 rfl
theorem dX8_lay_27 : decode cX8_lay 27 = .ok (.bipush (-2), 2) := dget zdX8_lay_0 12 rfl
theorem dX8_lay_29 : decode cX8_lay 29 = .ok (.ireturn, 1) := dget zdX8_lay_0 13 rfl
theorem dX8_lay_30 : decode cX8_lay 30 = .ok (.aload_n 0, 1) := dget zdX8_lay_0 14 rfl
theorem dX8_lay_31 : decode cX8_lay 31 = .ok (.getfield 23, 3) := dget zdX8_lay_0 15 rfl
theorem dX8_lay_34 : decode cX8_lay 34 = .ok (.aload_n 0, 1) := dget zdX8_lay_0 16 rfl
theorem dX8_lay_35 : decode cX8_lay 35 = .ok (.getfield 19, 3) := dget zdX8_lay_0 17 rfl
theorem dX8_lay_38 : decode cX8_lay 38 = .ok (.getfield 106, 3) := dget zdX8_lay_0 18 rfl
theorem dX8_lay_41 : decode cX8_lay 41 = .ok (.putfield 106, 3) := dget zdX8_lay_0 19 rfl
theorem dX8_lay_44 : decode cX8_lay 44 = .ok (.aload_n 0, 1) := dget zdX8_lay_0 20 rfl
theorem dX8_lay_45 : decode cX8_lay 45 = .ok (.getfield 19, 3) := dget zdX8_lay_0 21 rfl
theorem dX8_lay_48 : decode cX8_lay 48 = .ok (.aload_n 0, 1) := dget zdX8_lay_0 22 rfl
theorem dX8_lay_49 : decode cX8_lay 49 = .ok (.getfield 23, 3) := dget zdX8_lay_0 23 rfl
theorem dX8_lay_52 : decode cX8_lay 52 = .ok (.invokevirtual 93, 3) := dget zdX8_lay_0 24 rfl
theorem dX8_lay_55 : decode cX8_lay 55 = .ok (.aload_n 0, 1) := dget zdX8_lay_0 25 rfl
theorem dX8_lay_56 : decode cX8_lay 56 = .ok (.getfield 41, 3) := dget zdX8_lay_0 26 rfl
theorem dX8_lay_59 : decode cX8_lay 59 = .ok (.invokevirtual 109, 3) := dget zdX8_lay_0 27 rfl
theorem dX8_lay_62 : decode cX8_lay 62 = .ok (.aload_n 0, 1) := dget zdX8_lay_0 28 rfl
theorem dX8_lay_63 : decode cX8_lay 63 = .ok (.getfield 31, 3) := dget zdX8_lay_0 29 rfl
theorem dX8_lay_66 : decode cX8_lay 66 = .ok (.invokevirtual 110, 3) := dget zdX8_lay_0 30 rfl
theorem dX8_lay_69 : decode cX8_lay 69 = .ok (.aload_n 0, 1) := dget zdX8_lay_0 31 rfl
theorem dX8_lay_70 : decode cX8_lay 70 = .ok (.getfield 35, 3) := dget zdX8_lay_0 32 rfl
theorem dX8_lay_73 : decode cX8_lay 73 = .ok (.invokevirtual 110, 3) := dget zdX8_lay_0 33 rfl
theorem dX8_lay_76 : decode cX8_lay 76 = .ok (.aload_n 0, 1) := dget zdX8_lay_0 34 rfl
theorem dX8_lay_77 : decode cX8_lay 77 = .ok (.getfield 19, 3) := dget zdX8_lay_0 35 rfl
theorem dX8_lay_80 : decode cX8_lay 80 = .ok (.invokevirtual 111, 3) := dget zdX8_lay_0 36 rfl
theorem dX8_lay_83 : decode cX8_lay 83 = .ok (.ireturn, 1) := dget zdX8_lay_0 37 rfl
theorem zdX8_cell_0 : dchk cX8_cell [(0, .aload_n 0, 1), (1, .getfield 19, 3), (4, .iload_n 1, 1), (5, .invokevirtual 114, 3), (8, .ifCond .eq 10, 3), (11, .iload_n 2, 1), (12, .invokestatic 117, 3), (15, .ifCond .ne 5, 3), (18, .iconst (-1), 1), (19, .ireturn, 1), (20, .iload_n 2, 1), (21, .ifCond .ne 14, 3), (24, .aload_n 0, 1), (25, .getfield 19, 3), (28, .iload_n 1, 1), (29, .invokevirtual 120, 3), (32, .goto 14, 3), (35, .aload_n 0, 1), (36, .getfield 19, 3), (39, .iload_n 1, 1), (40, .invokevirtual 124, 3), (43, .invokestatic 127, 3), (46, .ireturn, 1)] = true := by decide +kernel
theorem dX8_cell_0 : decode cX8_cell 0 = .ok (.aload_n 0, 1) := dget zdX8_cell_0 0 rfl
theorem dX8_cell_1 : decode cX8_cell 1 = .ok (.getfield 19, 3) := dget zdX8_cell_0 1 rfl
theorem dX8_cell_4 : decode cX8_cell 4 = .ok (.iload_n 1, 1) := dget zdX8_cell_0 2 rfl
theorem dX8_cell_5 : decode cX8_cell 5 = .ok (.invokevirtual 114, 3) := dget zdX8_cell_0 3 rfl
theorem dX8_cell_8 : decode cX8_cell 8 = .ok (.ifCond .eq 10, 3) := dget zdX8_cell_0 4 rfl
theorem dX8_cell_11 : decode cX8_cell 11 = .ok (.iload_n 2, 1) := dget zdX8_cell_0 5 rfl
theorem dX8_cell_12 : decode cX8_cell 12 = .ok (.invokestatic 117, 3) := dget zdX8_cell_0 6 rfl
theorem dX8_cell_15 : decode cX8_cell 15 = .ok (.ifCond .ne 5, 3) := dget zdX8_cell_0 7 rfl
theorem dX8_cell_18 : decode cX8_cell 18 = .ok (.iconst (-1), 1) := dget zdX8_cell_0 8 rfl
theorem dX8_cell_19 : decode cX8_cell 19 = .ok (.ireturn, 1) := dget zdX8_cell_0 9 rfl
theorem dX8_cell_20 : decode cX8_cell 20 = .ok (.iload_n 2, 1) := dget zdX8_cell_0 10 rfl
theorem dX8_cell_21 : decode cX8_cell 21 = .ok (.ifCond .ne 14, 3) := dget zdX8_cell_0 11 rfl
theorem dX8_cell_24 : decode cX8_cell 24 = .ok (.aload_n 0, 1) := dget zdX8_cell_0 12 rfl
theorem dX8_cell_25 : decode cX8_cell 25 = .ok (.getfield 19, 3) := dget zdX8_cell_0 13 rfl
theorem dX8_cell_28 : decode cX8_cell 28 = .ok (.iload_n 1, 1) := dget zdX8_cell_0 14 rfl
theorem dX8_cell_29 : decode cX8_cell 29 = .ok (.invokevirtual 120, 3) := dget zdX8_cell_0 15 rfl
theorem dX8_cell_32 : decode cX8_cell 32 = .ok (.goto 14, 3) := dget zdX8_cell_0 16 rfl
theorem dX8_cell_35 : decode cX8_cell 35 = .ok (.aload_n 0, 1) := dget zdX8_cell_0 17 rfl
theorem dX8_cell_36 : decode cX8_cell 36 = .ok (.getfield 19, 3) := dget zdX8_cell_0 18 rfl
theorem dX8_cell_39 : decode cX8_cell 39 = .ok (.iload_n 1, 1) := dget zdX8_cell_0 19 rfl
theorem dX8_cell_40 : decode cX8_cell 40 = .ok (.invokevirtual 124, 3) := dget zdX8_cell_0 20 rfl
theorem dX8_cell_43 : decode cX8_cell 43 = .ok (.invokestatic 127, 3) := dget zdX8_cell_0 21 rfl
theorem dX8_cell_46 : decode cX8_cell 46 = .ok (.ireturn, 1) := dget zdX8_cell_0 22 rfl
theorem zdX8_stops_0 : dchk cX8_stops [(0, .aload_n 0, 1), (1, .iload_n 1, 1), (2, .iload_n 2, 1), (3, .iload_n 3, 1), (4, .invokevirtual 130, 3), (7, .ifCond .ne 5, 3), (10, .iconst (-1), 1), (11, .ireturn, 1), (12, .aload_n 0, 1), (13, .getfield 48, 3), (16, .aload_n 0, 1), (17, .getfield 19, 3), (20, .iload_n 1, 1), (21, .iload_n 2, 1), (22, .iload_n 3, 1), (23, .invokevirtual 134, 3), (26, .aload_n 0, 1), (27, .getfield 48, 3), (30, .getfield 138, 3), (33, .ireturn, 1)] = true := by decide +kernel
theorem dX8_stops_0 : decode cX8_stops 0 = .ok (.aload_n 0, 1) := dget zdX8_stops_0 0 rfl
theorem dX8_stops_1 : decode cX8_stops 1 = .ok (.iload_n 1, 1) := dget zdX8_stops_0 1 rfl
theorem dX8_stops_2 : decode cX8_stops 2 = .ok (.iload_n 2, 1) := dget zdX8_stops_0 2 rfl
theorem dX8_stops_3 : decode cX8_stops 3 = .ok (.iload_n 3, 1) := dget zdX8_stops_0 3 rfl
theorem dX8_stops_4 : decode cX8_stops 4 = .ok (.invokevirtual 130, 3) := dget zdX8_stops_0 4 rfl
theorem dX8_stops_7 : decode cX8_stops 7 = .ok (.ifCond .ne 5, 3) := dget zdX8_stops_0 5 rfl
theorem dX8_stops_10 : decode cX8_stops 10 = .ok (.iconst (-1), 1) := dget zdX8_stops_0 6 rfl
theorem dX8_stops_11 : decode cX8_stops 11 = .ok (.ireturn, 1) := dget zdX8_stops_0 7 rfl
theorem dX8_stops_12 : decode cX8_stops 12 = .ok (.aload_n 0, 1) := dget zdX8_stops_0 8 rfl
theorem dX8_stops_13 : decode cX8_stops 13 = .ok (.getfield 48, 3) := dget zdX8_stops_0 9 rfl
theorem dX8_stops_16 : decode cX8_stops 16 = .ok (.aload_n 0, 1) := dget zdX8_stops_0 10 rfl
theorem dX8_stops_17 : decode cX8_stops 17 = .ok (.getfield 19, 3) := dget zdX8_stops_0 11 rfl
theorem dX8_stops_20 : decode cX8_stops 20 = .ok (.iload_n 1, 1) := dget zdX8_stops_0 12 rfl
theorem dX8_stops_21 : decode cX8_stops 21 = .ok (.iload_n 2, 1) := dget zdX8_stops_0 13 rfl
theorem dX8_stops_22 : decode cX8_stops 22 = .ok (.iload_n 3, 1) := dget zdX8_stops_0 14 rfl
theorem dX8_stops_23 : decode cX8_stops 23 = .ok (.invokevirtual 134, 3) := dget zdX8_stops_0 15 rfl
theorem dX8_stops_26 : decode cX8_stops 26 = .ok (.aload_n 0, 1) := dget zdX8_stops_0 16 rfl
theorem dX8_stops_27 : decode cX8_stops 27 = .ok (.getfield 48, 3) := dget zdX8_stops_0 17 rfl
theorem dX8_stops_30 : decode cX8_stops 30 = .ok (.getfield 138, 3) := dget zdX8_stops_0 18 rfl
theorem dX8_stops_33 : decode cX8_stops 33 = .ok (.ireturn, 1) := dget zdX8_stops_0 19 rfl
theorem zdX8_track_0 : dchk cX8_track [(0, .aload_n 0, 1), (1, .iload_n 1, 1), (2, .iload_n 2, 1), (3, .iload_n 3, 1), (4, .invokevirtual 130, 3), (7, .ifCond .eq 23, 3), (10, .aload_n 0, 1), (11, .getfield 19, 3), (14, .iload 4, 2), (16, .invokevirtual 141, 3), (19, .ifCond .eq 11, 3), (22, .iload 5, 2), (24, .invokestatic 117, 3), (27, .ifCond .ne 5, 3), (30, .iconst (-1), 1), (31, .ireturn, 1), (32, .aload_n 0, 1), (33, .getfield 48, 3), (36, .aload_n 0, 1), (37, .getfield 19, 3), (40, .iload_n 1, 1), (41, .iload_n 2, 1), (42, .iload_n 3, 1), (43, .invokevirtual 134, 3), (46, .aload_n 0, 1), (47, .getfield 48, 3), (50, .iload 4, 2), (52, .invokevirtual 144, 3), (55, .ifCond .ne 6, 3), (58, .bipush (-4), 2), (60, .ireturn, 1), (61, .iload 5, 2), (63, .ifCond .ne 15, 3), (66, .aload_n 0, 1), (67, .getfield 48, 3), (70, .iload 4, 2), (72, .invokevirtual 147, 3), (75, .goto 12, 3), (78, .aload_n 0, 1), (79, .getfield 48, 3), (82, .iload 4, 2), (84, .invokevirtual 150, 3), (87, .ireturn, 1)] = true := by decide +kernel
theorem dX8_track_0 : decode cX8_track 0 = .ok (.aload_n 0, 1) := dget zdX8_track_0 0 rfl
theorem dX8_track_1 : decode cX8_track 1 = .ok (.iload_n 1, 1) := dget zdX8_track_0 1 rfl
theorem dX8_track_2 : decode cX8_track 2 = .ok (.iload_n 2, 1) := dget zdX8_track_0 2 rfl
theorem dX8_track_3 : decode cX8_track 3 = .ok (.iload_n 3, 1) := dget zdX8_track_0 3 rfl
theorem dX8_track_4 : decode cX8_track 4 = .ok (.invokevirtual 130, 3) := dget zdX8_track_0 4 rfl
theorem dX8_track_7 : decode cX8_track 7 = .ok (.ifCond .eq 23, 3) := dget zdX8_track_0 5 rfl
theorem dX8_track_10 : decode cX8_track 10 = .ok (.aload_n 0, 1) := dget zdX8_track_0 6 rfl
theorem dX8_track_11 : decode cX8_track 11 = .ok (.getfield 19, 3) := dget zdX8_track_0 7 rfl
theorem dX8_track_14 : decode cX8_track 14 = .ok (.iload 4, 2) := dget zdX8_track_0 8 rfl
theorem dX8_track_16 : decode cX8_track 16 = .ok (.invokevirtual 141, 3) := dget zdX8_track_0 9 rfl
theorem dX8_track_19 : decode cX8_track 19 = .ok (.ifCond .eq 11, 3) := dget zdX8_track_0 10 rfl
theorem dX8_track_22 : decode cX8_track 22 = .ok (.iload 5, 2) := dget zdX8_track_0 11 rfl
theorem dX8_track_24 : decode cX8_track 24 = .ok (.invokestatic 117, 3) := dget zdX8_track_0 12 rfl
theorem dX8_track_27 : decode cX8_track 27 = .ok (.ifCond .ne 5, 3) := dget zdX8_track_0 13 rfl
theorem dX8_track_30 : decode cX8_track 30 = .ok (.iconst (-1), 1) := dget zdX8_track_0 14 rfl
theorem dX8_track_31 : decode cX8_track 31 = .ok (.ireturn, 1) := dget zdX8_track_0 15 rfl
theorem dX8_track_32 : decode cX8_track 32 = .ok (.aload_n 0, 1) := dget zdX8_track_0 16 rfl
theorem dX8_track_33 : decode cX8_track 33 = .ok (.getfield 48, 3) := dget zdX8_track_0 17 rfl
theorem dX8_track_36 : decode cX8_track 36 = .ok (.aload_n 0, 1) := dget zdX8_track_0 18 rfl
theorem dX8_track_37 : decode cX8_track 37 = .ok (.getfield 19, 3) := dget zdX8_track_0 19 rfl
theorem dX8_track_40 : decode cX8_track 40 = .ok (.iload_n 1, 1) := dget zdX8_track_0 20 rfl
theorem dX8_track_41 : decode cX8_track 41 = .ok (.iload_n 2, 1) := dget zdX8_track_0 21 rfl
theorem dX8_track_42 : decode cX8_track 42 = .ok (.iload_n 3, 1) := dget zdX8_track_0 22 rfl
theorem dX8_track_43 : decode cX8_track 43 = .ok (.invokevirtual 134, 3) := dget zdX8_track_0 23 rfl
theorem dX8_track_46 : decode cX8_track 46 = .ok (.aload_n 0, 1) := dget zdX8_track_0 24 rfl
theorem dX8_track_47 : decode cX8_track 47 = .ok (.getfield 48, 3) := dget zdX8_track_0 25 rfl
theorem dX8_track_50 : decode cX8_track 50 = .ok (.iload 4, 2) := dget zdX8_track_0 26 rfl
theorem dX8_track_52 : decode cX8_track 52 = .ok (.invokevirtual 144, 3) := dget zdX8_track_0 27 rfl
theorem dX8_track_55 : decode cX8_track 55 = .ok (.ifCond .ne 6, 3) := dget zdX8_track_0 28 rfl
theorem dX8_track_58 : decode cX8_track 58 = .ok (.bipush (-4), 2) := dget zdX8_track_0 29 rfl
theorem dX8_track_60 : decode cX8_track 60 = .ok (.ireturn, 1) := dget zdX8_track_0 30 rfl
theorem dX8_track_61 : decode cX8_track 61 = .ok (.iload 5, 2) := dget zdX8_track_0 31 rfl
theorem dX8_track_63 : decode cX8_track 63 = .ok (.ifCond .ne 15, 3) := dget zdX8_track_0 32 rfl
theorem dX8_track_66 : decode cX8_track 66 = .ok (.aload_n 0, 1) := dget zdX8_track_0 33 rfl
theorem dX8_track_67 : decode cX8_track 67 = .ok (.getfield 48, 3) := dget zdX8_track_0 34 rfl
theorem dX8_track_70 : decode cX8_track 70 = .ok (.iload 4, 2) := dget zdX8_track_0 35 rfl
theorem dX8_track_72 : decode cX8_track 72 = .ok (.invokevirtual 147, 3) := dget zdX8_track_0 36 rfl
theorem dX8_track_75 : decode cX8_track 75 = .ok (.goto 12, 3) := dget zdX8_track_0 37 rfl
theorem dX8_track_78 : decode cX8_track 78 = .ok (.aload_n 0, 1) := dget zdX8_track_0 38 rfl
theorem dX8_track_79 : decode cX8_track 79 = .ok (.getfield 48, 3) := dget zdX8_track_0 39 rfl
theorem dX8_track_82 : decode cX8_track 82 = .ok (.iload 4, 2) := dget zdX8_track_0 40 rfl
theorem dX8_track_84 : decode cX8_track 84 = .ok (.invokevirtual 150, 3) := dget zdX8_track_0 41 rfl
theorem dX8_track_87 : decode cX8_track 87 = .ok (.ireturn, 1) := dget zdX8_track_0 42 rfl
theorem zdX8_holds_0 : dchk cX8_holds [(0, .iload_n 1, 1), (1, .invokestatic 153, 3), (4, .ifCond .eq 14, 3), (7, .aload_n 0, 1), (8, .getfield 19, 3), (11, .iload_n 1, 1), (12, .invokevirtual 156, 3), (15, .goto 4, 3), (18, .iconst (-1), 1), (19, .ireturn, 1)] = true := by decide +kernel
theorem dX8_holds_0 : decode cX8_holds 0 = .ok (.iload_n 1, 1) := dget zdX8_holds_0 0 rfl
theorem dX8_holds_1 : decode cX8_holds 1 = .ok (.invokestatic 153, 3) := dget zdX8_holds_0 1 rfl
theorem dX8_holds_4 : decode cX8_holds 4 = .ok (.ifCond .eq 14, 3) := dget zdX8_holds_0 2 rfl
theorem dX8_holds_7 : decode cX8_holds 7 = .ok (.aload_n 0, 1) := dget zdX8_holds_0 3 rfl
theorem dX8_holds_8 : decode cX8_holds 8 = .ok (.getfield 19, 3) := dget zdX8_holds_0 4 rfl
theorem dX8_holds_11 : decode cX8_holds 11 = .ok (.iload_n 1, 1) := dget zdX8_holds_0 5 rfl
theorem dX8_holds_12 : decode cX8_holds 12 = .ok (.invokevirtual 156, 3) := dget zdX8_holds_0 6 rfl
theorem dX8_holds_15 : decode cX8_holds 15 = .ok (.goto 4, 3) := dget zdX8_holds_0 7 rfl
theorem dX8_holds_18 : decode cX8_holds 18 = .ok (.iconst (-1), 1) := dget zdX8_holds_0 8 rfl
theorem dX8_holds_19 : decode cX8_holds 19 = .ok (.ireturn, 1) := dget zdX8_holds_0 9 rfl
theorem zdX8_slide_0 : dchk cX8_slide [(0, .iload_n 1, 1), (1, .invokestatic 153, 3), (4, .ifCond .eq 14, 3), (7, .aload_n 0, 1), (8, .iload_n 2, 1), (9, .iload_n 3, 1), (10, .iload 4, 2), (12, .invokevirtual 130, 3), (15, .ifCond .ne 5, 3), (18, .iconst (-1), 1), (19, .ireturn, 1), (20, .aload_n 0, 1), (21, .getfield 31, 3), (24, .aload_n 0, 1), (25, .getfield 19, 3), (28, .invokevirtual 159, 3), (31, .aload_n 0, 1), (32, .getfield 48, 3), (35, .aload_n 0, 1), (36, .getfield 19, 3), (39, .iload_n 2, 1), (40, .iload_n 3, 1), (41, .iload 4, 2), (43, .invokevirtual 134, 3), (46, .aload_n 0, 1), (47, .getfield 48, 3), (50, .aload_n 0, 1), (51, .getfield 19, 3), (54, .iload_n 1, 1), (55, .invokevirtual 162, 3), (58, .aload_n 0, 1), (59, .getfield 19, 3), (62, .dup, 1), (63, .getfield 106, 3), (66, .iconst 1, 1), (67, .iadd, 1), (68, .putfield 106, 3), (71, .aload_n 0, 1), (72, .getfield 48, 3), (75, .getfield 138, 3), (78, .ireturn, 1)] = true := by decide +kernel
theorem dX8_slide_0 : decode cX8_slide 0 = .ok (.iload_n 1, 1) := dget zdX8_slide_0 0 rfl
theorem dX8_slide_1 : decode cX8_slide 1 = .ok (.invokestatic 153, 3) := dget zdX8_slide_0 1 rfl
theorem dX8_slide_4 : decode cX8_slide 4 = .ok (.ifCond .eq 14, 3) := dget zdX8_slide_0 2 rfl
theorem dX8_slide_7 : decode cX8_slide 7 = .ok (.aload_n 0, 1) := dget zdX8_slide_0 3 rfl
theorem dX8_slide_8 : decode cX8_slide 8 = .ok (.iload_n 2, 1) := dget zdX8_slide_0 4 rfl
theorem dX8_slide_9 : decode cX8_slide 9 = .ok (.iload_n 3, 1) := dget zdX8_slide_0 5 rfl
theorem dX8_slide_10 : decode cX8_slide 10 = .ok (.iload 4, 2) := dget zdX8_slide_0 6 rfl
theorem dX8_slide_12 : decode cX8_slide 12 = .ok (.invokevirtual 130, 3) := dget zdX8_slide_0 7 rfl
theorem dX8_slide_15 : decode cX8_slide 15 = .ok (.ifCond .ne 5, 3) := dget zdX8_slide_0 8 rfl
theorem dX8_slide_18 : decode cX8_slide 18 = .ok (.iconst (-1), 1) := dget zdX8_slide_0 9 rfl
theorem dX8_slide_19 : decode cX8_slide 19 = .ok (.ireturn, 1) := dget zdX8_slide_0 10 rfl
theorem dX8_slide_20 : decode cX8_slide 20 = .ok (.aload_n 0, 1) := dget zdX8_slide_0 11 rfl
theorem dX8_slide_21 : decode cX8_slide 21 = .ok (.getfield 31, 3) := dget zdX8_slide_0 12 rfl
theorem dX8_slide_24 : decode cX8_slide 24 = .ok (.aload_n 0, 1) := dget zdX8_slide_0 13 rfl
theorem dX8_slide_25 : decode cX8_slide 25 = .ok (.getfield 19, 3) := dget zdX8_slide_0 14 rfl
theorem dX8_slide_28 : decode cX8_slide 28 = .ok (.invokevirtual 159, 3) := dget zdX8_slide_0 15 rfl
theorem dX8_slide_31 : decode cX8_slide 31 = .ok (.aload_n 0, 1) := dget zdX8_slide_0 16 rfl
theorem dX8_slide_32 : decode cX8_slide 32 = .ok (.getfield 48, 3) := dget zdX8_slide_0 17 rfl
theorem dX8_slide_35 : decode cX8_slide 35 = .ok (.aload_n 0, 1) := dget zdX8_slide_0 18 rfl
theorem dX8_slide_36 : decode cX8_slide 36 = .ok (.getfield 19, 3) := dget zdX8_slide_0 19 rfl
theorem dX8_slide_39 : decode cX8_slide 39 = .ok (.iload_n 2, 1) := dget zdX8_slide_0 20 rfl
theorem dX8_slide_40 : decode cX8_slide 40 = .ok (.iload_n 3, 1) := dget zdX8_slide_0 21 rfl
theorem dX8_slide_41 : decode cX8_slide 41 = .ok (.iload 4, 2) := dget zdX8_slide_0 22 rfl
theorem dX8_slide_43 : decode cX8_slide 43 = .ok (.invokevirtual 134, 3) := dget zdX8_slide_0 23 rfl
theorem dX8_slide_46 : decode cX8_slide 46 = .ok (.aload_n 0, 1) := dget zdX8_slide_0 24 rfl
theorem dX8_slide_47 : decode cX8_slide 47 = .ok (.getfield 48, 3) := dget zdX8_slide_0 25 rfl
theorem dX8_slide_50 : decode cX8_slide 50 = .ok (.aload_n 0, 1) := dget zdX8_slide_0 26 rfl
theorem dX8_slide_51 : decode cX8_slide 51 = .ok (.getfield 19, 3) := dget zdX8_slide_0 27 rfl
theorem dX8_slide_54 : decode cX8_slide 54 = .ok (.iload_n 1, 1) := dget zdX8_slide_0 28 rfl
theorem dX8_slide_55 : decode cX8_slide 55 = .ok (.invokevirtual 162, 3) := dget zdX8_slide_0 29 rfl
theorem dX8_slide_58 : decode cX8_slide 58 = .ok (.aload_n 0, 1) := dget zdX8_slide_0 30 rfl
theorem dX8_slide_59 : decode cX8_slide 59 = .ok (.getfield 19, 3) := dget zdX8_slide_0 31 rfl
theorem dX8_slide_62 : decode cX8_slide 62 = .ok (.dup, 1) := dget zdX8_slide_0 32 rfl
theorem dX8_slide_63 : decode cX8_slide 63 = .ok (.getfield 106, 3) := dget zdX8_slide_0 33 rfl
theorem dX8_slide_66 : decode cX8_slide 66 = .ok (.iconst 1, 1) := dget zdX8_slide_0 34 rfl
theorem dX8_slide_67 : decode cX8_slide 67 = .ok (.iadd, 1) := dget zdX8_slide_0 35 rfl
theorem dX8_slide_68 : decode cX8_slide 68 = .ok (.putfield 106, 3) := dget zdX8_slide_0 36 rfl
theorem dX8_slide_71 : decode cX8_slide 71 = .ok (.aload_n 0, 1) := dget zdX8_slide_0 37 rfl
theorem dX8_slide_72 : decode cX8_slide 72 = .ok (.getfield 48, 3) := dget zdX8_slide_0 38 rfl
theorem dX8_slide_75 : decode cX8_slide 75 = .ok (.getfield 138, 3) := dget zdX8_slide_0 39 rfl
theorem dX8_slide_78 : decode cX8_slide 78 = .ok (.ireturn, 1) := dget zdX8_slide_0 40 rfl
theorem zdX8_dig_0 : dchk cX8_dig [(0, .aload_n 0, 1), (1, .getfield 19, 3), (4, .iload_n 1, 1), (5, .invokevirtual 114, 3), (8, .ifCond .eq 10, 3), (11, .iload_n 2, 1), (12, .invokestatic 166, 3), (15, .ifCond .ne 5, 3), (18, .iconst (-1), 1), (19, .ireturn, 1), (20, .aload_n 0, 1), (21, .getfield 19, 3), (24, .iload_n 1, 1), (25, .invokevirtual 120, 3), (28, .istore_n 3, 1), (29, .iload_n 3, 1), (30, .iload_n 2, 1), (31, .if_icmp .ne 6, 3), (34, .bipush (-2), 2), (36, .ireturn, 1), (37, .aload_n 0, 1), (38, .getfield 31, 3), (41, .aload_n 0, 1), (42, .getfield 19, 3), (45, .invokevirtual 159, 3), (48, .aload_n 0, 1), (49, .getfield 19, 3), (52, .iload_n 1, 1), (53, .iload_n 2, 1), (54, .invokevirtual 169, 3), (57, .iload_n 3, 1), (58, .ireturn, 1)] = true := by decide +kernel
theorem dX8_dig_0 : decode cX8_dig 0 = .ok (.aload_n 0, 1) := dget zdX8_dig_0 0 rfl
theorem dX8_dig_1 : decode cX8_dig 1 = .ok (.getfield 19, 3) := dget zdX8_dig_0 1 rfl
theorem dX8_dig_4 : decode cX8_dig 4 = .ok (.iload_n 1, 1) := dget zdX8_dig_0 2 rfl
theorem dX8_dig_5 : decode cX8_dig 5 = .ok (.invokevirtual 114, 3) := dget zdX8_dig_0 3 rfl
theorem dX8_dig_8 : decode cX8_dig 8 = .ok (.ifCond .eq 10, 3) := dget zdX8_dig_0 4 rfl
theorem dX8_dig_11 : decode cX8_dig 11 = .ok (.iload_n 2, 1) := dget zdX8_dig_0 5 rfl
theorem dX8_dig_12 : decode cX8_dig 12 = .ok (.invokestatic 166, 3) := dget zdX8_dig_0 6 rfl
theorem dX8_dig_15 : decode cX8_dig 15 = .ok (.ifCond .ne 5, 3) := dget zdX8_dig_0 7 rfl
theorem dX8_dig_18 : decode cX8_dig 18 = .ok (.iconst (-1), 1) := dget zdX8_dig_0 8 rfl
theorem dX8_dig_19 : decode cX8_dig 19 = .ok (.ireturn, 1) := dget zdX8_dig_0 9 rfl
theorem dX8_dig_20 : decode cX8_dig 20 = .ok (.aload_n 0, 1) := dget zdX8_dig_0 10 rfl
theorem dX8_dig_21 : decode cX8_dig 21 = .ok (.getfield 19, 3) := dget zdX8_dig_0 11 rfl
theorem dX8_dig_24 : decode cX8_dig 24 = .ok (.iload_n 1, 1) := dget zdX8_dig_0 12 rfl
theorem dX8_dig_25 : decode cX8_dig 25 = .ok (.invokevirtual 120, 3) := dget zdX8_dig_0 13 rfl
theorem dX8_dig_28 : decode cX8_dig 28 = .ok (.istore_n 3, 1) := dget zdX8_dig_0 14 rfl
theorem dX8_dig_29 : decode cX8_dig 29 = .ok (.iload_n 3, 1) := dget zdX8_dig_0 15 rfl
theorem dX8_dig_30 : decode cX8_dig 30 = .ok (.iload_n 2, 1) := dget zdX8_dig_0 16 rfl
theorem dX8_dig_31 : decode cX8_dig 31 = .ok (.if_icmp .ne 6, 3) := dget zdX8_dig_0 17 rfl
theorem dX8_dig_34 : decode cX8_dig 34 = .ok (.bipush (-2), 2) := dget zdX8_dig_0 18 rfl
theorem dX8_dig_36 : decode cX8_dig 36 = .ok (.ireturn, 1) := dget zdX8_dig_0 19 rfl
theorem dX8_dig_37 : decode cX8_dig 37 = .ok (.aload_n 0, 1) := dget zdX8_dig_0 20 rfl
theorem dX8_dig_38 : decode cX8_dig 38 = .ok (.getfield 31, 3) := dget zdX8_dig_0 21 rfl
theorem dX8_dig_41 : decode cX8_dig 41 = .ok (.aload_n 0, 1) := dget zdX8_dig_0 22 rfl
theorem dX8_dig_42 : decode cX8_dig 42 = .ok (.getfield 19, 3) := dget zdX8_dig_0 23 rfl
theorem dX8_dig_45 : decode cX8_dig 45 = .ok (.invokevirtual 159, 3) := dget zdX8_dig_0 24 rfl
theorem dX8_dig_48 : decode cX8_dig 48 = .ok (.aload_n 0, 1) := dget zdX8_dig_0 25 rfl
theorem dX8_dig_49 : decode cX8_dig 49 = .ok (.getfield 19, 3) := dget zdX8_dig_0 26 rfl
theorem dX8_dig_52 : decode cX8_dig 52 = .ok (.iload_n 1, 1) := dget zdX8_dig_0 27 rfl
theorem dX8_dig_53 : decode cX8_dig 53 = .ok (.iload_n 2, 1) := dget zdX8_dig_0 28 rfl
theorem dX8_dig_54 : decode cX8_dig 54 = .ok (.invokevirtual 169, 3) := dget zdX8_dig_0 29 rfl
theorem dX8_dig_57 : decode cX8_dig 57 = .ok (.iload_n 3, 1) := dget zdX8_dig_0 30 rfl
theorem dX8_dig_58 : decode cX8_dig 58 = .ok (.ireturn, 1) := dget zdX8_dig_0 31 rfl
theorem zdX8_give_0 : dchk cX8_give [(0, .aload_n 0, 1), (1, .getfield 19, 3), (4, .iload_n 1, 1), (5, .invokevirtual 114, 3), (8, .ifCond .eq 15, 3), (11, .iload_n 2, 1), (12, .invokestatic 153, 3), (15, .ifCond .ne 10, 3), (18, .iload_n 2, 1), (19, .iconst 4, 1), (20, .if_icmp .eq 5, 3), (23, .iconst (-1), 1), (24, .ireturn, 1), (25, .aload_n 0, 1), (26, .getfield 19, 3), (29, .iload_n 1, 1), (30, .invokevirtual 124, 3), (33, .istore_n 3, 1), (34, .iload_n 3, 1), (35, .iload_n 2, 1), (36, .if_icmp .ne 6, 3), (39, .bipush (-2), 2), (41, .ireturn, 1), (42, .aload_n 0, 1), (43, .getfield 31, 3), (46, .aload_n 0, 1), (47, .getfield 19, 3), (50, .invokevirtual 159, 3), (53, .aload_n 0, 1), (54, .getfield 19, 3), (57, .iload_n 1, 1), (58, .iload_n 2, 1), (59, .invokevirtual 173, 3), (62, .iload_n 3, 1), (63, .invokestatic 127, 3), (66, .ireturn, 1)] = true := by decide +kernel
theorem dX8_give_0 : decode cX8_give 0 = .ok (.aload_n 0, 1) := dget zdX8_give_0 0 rfl
theorem dX8_give_1 : decode cX8_give 1 = .ok (.getfield 19, 3) := dget zdX8_give_0 1 rfl
theorem dX8_give_4 : decode cX8_give 4 = .ok (.iload_n 1, 1) := dget zdX8_give_0 2 rfl
theorem dX8_give_5 : decode cX8_give 5 = .ok (.invokevirtual 114, 3) := dget zdX8_give_0 3 rfl
theorem dX8_give_8 : decode cX8_give 8 = .ok (.ifCond .eq 15, 3) := dget zdX8_give_0 4 rfl
theorem dX8_give_11 : decode cX8_give 11 = .ok (.iload_n 2, 1) := dget zdX8_give_0 5 rfl
theorem dX8_give_12 : decode cX8_give 12 = .ok (.invokestatic 153, 3) := dget zdX8_give_0 6 rfl
theorem dX8_give_15 : decode cX8_give 15 = .ok (.ifCond .ne 10, 3) := dget zdX8_give_0 7 rfl
theorem dX8_give_18 : decode cX8_give 18 = .ok (.iload_n 2, 1) := dget zdX8_give_0 8 rfl
theorem dX8_give_19 : decode cX8_give 19 = .ok (.iconst 4, 1) := dget zdX8_give_0 9 rfl
theorem dX8_give_20 : decode cX8_give 20 = .ok (.if_icmp .eq 5, 3) := dget zdX8_give_0 10 rfl
theorem dX8_give_23 : decode cX8_give 23 = .ok (.iconst (-1), 1) := dget zdX8_give_0 11 rfl
theorem dX8_give_24 : decode cX8_give 24 = .ok (.ireturn, 1) := dget zdX8_give_0 12 rfl
theorem dX8_give_25 : decode cX8_give 25 = .ok (.aload_n 0, 1) := dget zdX8_give_0 13 rfl
theorem dX8_give_26 : decode cX8_give 26 = .ok (.getfield 19, 3) := dget zdX8_give_0 14 rfl
theorem dX8_give_29 : decode cX8_give 29 = .ok (.iload_n 1, 1) := dget zdX8_give_0 15 rfl
theorem dX8_give_30 : decode cX8_give 30 = .ok (.invokevirtual 124, 3) := dget zdX8_give_0 16 rfl
theorem dX8_give_33 : decode cX8_give 33 = .ok (.istore_n 3, 1) := dget zdX8_give_0 17 rfl
theorem dX8_give_34 : decode cX8_give 34 = .ok (.iload_n 3, 1) := dget zdX8_give_0 18 rfl
theorem dX8_give_35 : decode cX8_give 35 = .ok (.iload_n 2, 1) := dget zdX8_give_0 19 rfl
theorem dX8_give_36 : decode cX8_give 36 = .ok (.if_icmp .ne 6, 3) := dget zdX8_give_0 20 rfl
theorem dX8_give_39 : decode cX8_give 39 = .ok (.bipush (-2), 2) := dget zdX8_give_0 21 rfl
theorem dX8_give_41 : decode cX8_give 41 = .ok (.ireturn, 1) := dget zdX8_give_0 22 rfl
theorem dX8_give_42 : decode cX8_give 42 = .ok (.aload_n 0, 1) := dget zdX8_give_0 23 rfl
theorem dX8_give_43 : decode cX8_give 43 = .ok (.getfield 31, 3) := dget zdX8_give_0 24 rfl
theorem dX8_give_46 : decode cX8_give 46 = .ok (.aload_n 0, 1) := dget zdX8_give_0 25 rfl
theorem dX8_give_47 : decode cX8_give 47 = .ok (.getfield 19, 3) := dget zdX8_give_0 26 rfl
theorem dX8_give_50 : decode cX8_give 50 = .ok (.invokevirtual 159, 3) := dget zdX8_give_0 27 rfl
theorem dX8_give_53 : decode cX8_give 53 = .ok (.aload_n 0, 1) := dget zdX8_give_0 28 rfl
theorem dX8_give_54 : decode cX8_give 54 = .ok (.getfield 19, 3) := dget zdX8_give_0 29 rfl
theorem dX8_give_57 : decode cX8_give 57 = .ok (.iload_n 1, 1) := dget zdX8_give_0 30 rfl
theorem dX8_give_58 : decode cX8_give 58 = .ok (.iload_n 2, 1) := dget zdX8_give_0 31 rfl
theorem dX8_give_59 : decode cX8_give 59 = .ok (.invokevirtual 173, 3) := dget zdX8_give_0 32 rfl
theorem dX8_give_62 : decode cX8_give 62 = .ok (.iload_n 3, 1) := dget zdX8_give_0 33 rfl
theorem dX8_give_63 : decode cX8_give 63 = .ok (.invokestatic 127, 3) := dget zdX8_give_0 34 rfl
theorem dX8_give_66 : decode cX8_give 66 = .ok (.ireturn, 1) := dget zdX8_give_0 35 rfl
theorem zdX8_frost_0 : dchk cX8_frost [(0, .aload_n 0, 1), (1, .getfield 19, 3), (4, .iload_n 1, 1), (5, .invokevirtual 141, 3), (8, .ifCond .ne 5, 3), (11, .iconst (-1), 1), (12, .ireturn, 1), (13, .aload_n 0, 1), (14, .getfield 19, 3), (17, .iload_n 1, 1), (18, .invokevirtual 176, 3), (21, .istore_n 2, 1), (22, .iload_n 2, 1), (23, .ifCond .ne 6, 3), (26, .bipush (-2), 2), (28, .ireturn, 1), (29, .aload_n 0, 1), (30, .getfield 31, 3), (33, .aload_n 0, 1), (34, .getfield 19, 3), (37, .invokevirtual 159, 3), (40, .aload_n 0, 1), (41, .getfield 19, 3), (44, .iload_n 1, 1), (45, .invokevirtual 179, 3), (48, .iload_n 2, 1), (49, .ireturn, 1)] = true := by decide +kernel
theorem dX8_frost_0 : decode cX8_frost 0 = .ok (.aload_n 0, 1) := dget zdX8_frost_0 0 rfl
theorem dX8_frost_1 : decode cX8_frost 1 = .ok (.getfield 19, 3) := dget zdX8_frost_0 1 rfl
theorem dX8_frost_4 : decode cX8_frost 4 = .ok (.iload_n 1, 1) := dget zdX8_frost_0 2 rfl
theorem dX8_frost_5 : decode cX8_frost 5 = .ok (.invokevirtual 141, 3) := dget zdX8_frost_0 3 rfl
theorem dX8_frost_8 : decode cX8_frost 8 = .ok (.ifCond .ne 5, 3) := dget zdX8_frost_0 4 rfl
theorem dX8_frost_11 : decode cX8_frost 11 = .ok (.iconst (-1), 1) := dget zdX8_frost_0 5 rfl
theorem dX8_frost_12 : decode cX8_frost 12 = .ok (.ireturn, 1) := dget zdX8_frost_0 6 rfl
theorem dX8_frost_13 : decode cX8_frost 13 = .ok (.aload_n 0, 1) := dget zdX8_frost_0 7 rfl
theorem dX8_frost_14 : decode cX8_frost 14 = .ok (.getfield 19, 3) := dget zdX8_frost_0 8 rfl
theorem dX8_frost_17 : decode cX8_frost 17 = .ok (.iload_n 1, 1) := dget zdX8_frost_0 9 rfl
theorem dX8_frost_18 : decode cX8_frost 18 = .ok (.invokevirtual 176, 3) := dget zdX8_frost_0 10 rfl
theorem dX8_frost_21 : decode cX8_frost 21 = .ok (.istore_n 2, 1) := dget zdX8_frost_0 11 rfl
theorem dX8_frost_22 : decode cX8_frost 22 = .ok (.iload_n 2, 1) := dget zdX8_frost_0 12 rfl
theorem dX8_frost_23 : decode cX8_frost 23 = .ok (.ifCond .ne 6, 3) := dget zdX8_frost_0 13 rfl
theorem dX8_frost_26 : decode cX8_frost 26 = .ok (.bipush (-2), 2) := dget zdX8_frost_0 14 rfl
theorem dX8_frost_28 : decode cX8_frost 28 = .ok (.ireturn, 1) := dget zdX8_frost_0 15 rfl
theorem dX8_frost_29 : decode cX8_frost 29 = .ok (.aload_n 0, 1) := dget zdX8_frost_0 16 rfl
theorem dX8_frost_30 : decode cX8_frost 30 = .ok (.getfield 31, 3) := dget zdX8_frost_0 17 rfl
theorem dX8_frost_33 : decode cX8_frost 33 = .ok (.aload_n 0, 1) := dget zdX8_frost_0 18 rfl
theorem dX8_frost_34 : decode cX8_frost 34 = .ok (.getfield 19, 3) := dget zdX8_frost_0 19 rfl
theorem dX8_frost_37 : decode cX8_frost 37 = .ok (.invokevirtual 159, 3) := dget zdX8_frost_0 20 rfl
theorem dX8_frost_40 : decode cX8_frost 40 = .ok (.aload_n 0, 1) := dget zdX8_frost_0 21 rfl
theorem dX8_frost_41 : decode cX8_frost 41 = .ok (.getfield 19, 3) := dget zdX8_frost_0 22 rfl
theorem dX8_frost_44 : decode cX8_frost 44 = .ok (.iload_n 1, 1) := dget zdX8_frost_0 23 rfl
theorem dX8_frost_45 : decode cX8_frost 45 = .ok (.invokevirtual 179, 3) := dget zdX8_frost_0 24 rfl
theorem dX8_frost_48 : decode cX8_frost 48 = .ok (.iload_n 2, 1) := dget zdX8_frost_0 25 rfl
theorem dX8_frost_49 : decode cX8_frost 49 = .ok (.ireturn, 1) := dget zdX8_frost_0 26 rfl
theorem zdX8_undo_0 : dchk cX8_undo [(0, .aload_n 0, 1), (1, .getfield 31, 3), (4, .aload_n 0, 1), (5, .getfield 19, 3), (8, .invokevirtual 182, 3), (11, .ifCond .eq 13, 3), (14, .aload_n 0, 1), (15, .getfield 31, 3), (18, .getfield 186, 3), (21, .goto 5, 3), (24, .bipush (-2), 2), (26, .ireturn, 1)] = true := by decide +kernel
theorem dX8_undo_0 : decode cX8_undo 0 = .ok (.aload_n 0, 1) := dget zdX8_undo_0 0 rfl
theorem dX8_undo_1 : decode cX8_undo 1 = .ok (.getfield 31, 3) := dget zdX8_undo_0 1 rfl
theorem dX8_undo_4 : decode cX8_undo 4 = .ok (.aload_n 0, 1) := dget zdX8_undo_0 2 rfl
theorem dX8_undo_5 : decode cX8_undo 5 = .ok (.getfield 19, 3) := dget zdX8_undo_0 3 rfl
theorem dX8_undo_8 : decode cX8_undo 8 = .ok (.invokevirtual 182, 3) := dget zdX8_undo_0 4 rfl
theorem dX8_undo_11 : decode cX8_undo 11 = .ok (.ifCond .eq 13, 3) := dget zdX8_undo_0 5 rfl
theorem dX8_undo_14 : decode cX8_undo 14 = .ok (.aload_n 0, 1) := dget zdX8_undo_0 6 rfl
theorem dX8_undo_15 : decode cX8_undo 15 = .ok (.getfield 31, 3) := dget zdX8_undo_0 7 rfl
theorem dX8_undo_18 : decode cX8_undo 18 = .ok (.getfield 186, 3) := dget zdX8_undo_0 8 rfl
theorem dX8_undo_21 : decode cX8_undo 21 = .ok (.goto 5, 3) := dget zdX8_undo_0 9 rfl
theorem dX8_undo_24 : decode cX8_undo 24 = .ok (.bipush (-2), 2) := dget zdX8_undo_0 10 rfl
theorem dX8_undo_26 : decode cX8_undo 26 = .ok (.ireturn, 1) := dget zdX8_undo_0 11 rfl
theorem zdX8_aim_0 : dchk cX8_aim [(0, .aload_n 0, 1), (1, .getfield 19, 3), (4, .iload_n 1, 1), (5, .invokevirtual 114, 3), (8, .ifCond .ne 5, 3), (11, .iconst (-1), 1), (12, .ireturn, 1), (13, .aload_n 0, 1), (14, .getfield 55, 3), (17, .aload_n 0, 1), (18, .getfield 19, 3), (21, .aload_n 0, 1), (22, .getfield 48, 3), (25, .iload_n 1, 1), (26, .invokevirtual 189, 3), (29, .ireturn, 1)] = true := by decide +kernel
theorem dX8_aim_0 : decode cX8_aim 0 = .ok (.aload_n 0, 1) := dget zdX8_aim_0 0 rfl
theorem dX8_aim_1 : decode cX8_aim 1 = .ok (.getfield 19, 3) := dget zdX8_aim_0 1 rfl
theorem dX8_aim_4 : decode cX8_aim 4 = .ok (.iload_n 1, 1) := dget zdX8_aim_0 2 rfl
theorem dX8_aim_5 : decode cX8_aim 5 = .ok (.invokevirtual 114, 3) := dget zdX8_aim_0 3 rfl
theorem dX8_aim_8 : decode cX8_aim 8 = .ok (.ifCond .ne 5, 3) := dget zdX8_aim_0 4 rfl
theorem dX8_aim_11 : decode cX8_aim 11 = .ok (.iconst (-1), 1) := dget zdX8_aim_0 5 rfl
theorem dX8_aim_12 : decode cX8_aim 12 = .ok (.ireturn, 1) := dget zdX8_aim_0 6 rfl
theorem dX8_aim_13 : decode cX8_aim 13 = .ok (.aload_n 0, 1) := dget zdX8_aim_0 7 rfl
theorem dX8_aim_14 : decode cX8_aim 14 = .ok (.getfield 55, 3) := dget zdX8_aim_0 8 rfl
theorem dX8_aim_17 : decode cX8_aim 17 = .ok (.aload_n 0, 1) := dget zdX8_aim_0 9 rfl
theorem dX8_aim_18 : decode cX8_aim 18 = .ok (.getfield 19, 3) := dget zdX8_aim_0 10 rfl
theorem dX8_aim_21 : decode cX8_aim 21 = .ok (.aload_n 0, 1) := dget zdX8_aim_0 11 rfl
theorem dX8_aim_22 : decode cX8_aim 22 = .ok (.getfield 48, 3) := dget zdX8_aim_0 12 rfl
theorem dX8_aim_25 : decode cX8_aim 25 = .ok (.iload_n 1, 1) := dget zdX8_aim_0 13 rfl
theorem dX8_aim_26 : decode cX8_aim 26 = .ok (.invokevirtual 189, 3) := dget zdX8_aim_0 14 rfl
theorem dX8_aim_29 : decode cX8_aim 29 = .ok (.ireturn, 1) := dget zdX8_aim_0 15 rfl
theorem zdX8_gain_0 : dchk cX8_gain [(0, .iload_n 1, 1), (1, .invokestatic 153, 3), (4, .ifCond .eq 10, 3), (7, .iload_n 2, 1), (8, .invokestatic 117, 3), (11, .ifCond .ne 5, 3), (14, .iconst (-1), 1), (15, .ireturn, 1), (16, .aload_n 0, 1), (17, .getfield 55, 3), (20, .aload_n 0, 1), (21, .getfield 19, 3), (24, .aload_n 0, 1), (25, .getfield 48, 3), (28, .iload_n 1, 1), (29, .iconst 0, 1), (30, .invokevirtual 193, 3), (33, .iload_n 2, 1), (34, .ifCond .ne 13, 3), (37, .aload_n 0, 1), (38, .getfield 55, 3), (41, .getfield 197, 3), (44, .goto 19, 3), (47, .aload_n 0, 1), (48, .getfield 19, 3), (51, .iload_n 1, 1), (52, .invokevirtual 156, 3), (55, .aload_n 0, 1), (56, .getfield 55, 3), (59, .getfield 200, 3), (62, .iadd, 1), (63, .ireturn, 1)] = true := by decide +kernel
theorem dX8_gain_0 : decode cX8_gain 0 = .ok (.iload_n 1, 1) := dget zdX8_gain_0 0 rfl
theorem dX8_gain_1 : decode cX8_gain 1 = .ok (.invokestatic 153, 3) := dget zdX8_gain_0 1 rfl
theorem dX8_gain_4 : decode cX8_gain 4 = .ok (.ifCond .eq 10, 3) := dget zdX8_gain_0 2 rfl
theorem dX8_gain_7 : decode cX8_gain 7 = .ok (.iload_n 2, 1) := dget zdX8_gain_0 3 rfl
theorem dX8_gain_8 : decode cX8_gain 8 = .ok (.invokestatic 117, 3) := dget zdX8_gain_0 4 rfl
theorem dX8_gain_11 : decode cX8_gain 11 = .ok (.ifCond .ne 5, 3) := dget zdX8_gain_0 5 rfl
theorem dX8_gain_14 : decode cX8_gain 14 = .ok (.iconst (-1), 1) := dget zdX8_gain_0 6 rfl
theorem dX8_gain_15 : decode cX8_gain 15 = .ok (.ireturn, 1) := dget zdX8_gain_0 7 rfl
theorem dX8_gain_16 : decode cX8_gain 16 = .ok (.aload_n 0, 1) := dget zdX8_gain_0 8 rfl
theorem dX8_gain_17 : decode cX8_gain 17 = .ok (.getfield 55, 3) := dget zdX8_gain_0 9 rfl
theorem dX8_gain_20 : decode cX8_gain 20 = .ok (.aload_n 0, 1) := dget zdX8_gain_0 10 rfl
theorem dX8_gain_21 : decode cX8_gain 21 = .ok (.getfield 19, 3) := dget zdX8_gain_0 11 rfl
theorem dX8_gain_24 : decode cX8_gain 24 = .ok (.aload_n 0, 1) := dget zdX8_gain_0 12 rfl
theorem dX8_gain_25 : decode cX8_gain 25 = .ok (.getfield 48, 3) := dget zdX8_gain_0 13 rfl
theorem dX8_gain_28 : decode cX8_gain 28 = .ok (.iload_n 1, 1) := dget zdX8_gain_0 14 rfl
theorem dX8_gain_29 : decode cX8_gain 29 = .ok (.iconst 0, 1) := dget zdX8_gain_0 15 rfl
theorem dX8_gain_30 : decode cX8_gain 30 = .ok (.invokevirtual 193, 3) := dget zdX8_gain_0 16 rfl
theorem dX8_gain_33 : decode cX8_gain 33 = .ok (.iload_n 2, 1) := dget zdX8_gain_0 17 rfl
theorem dX8_gain_34 : decode cX8_gain 34 = .ok (.ifCond .ne 13, 3) := dget zdX8_gain_0 18 rfl
theorem dX8_gain_37 : decode cX8_gain 37 = .ok (.aload_n 0, 1) := dget zdX8_gain_0 19 rfl
theorem dX8_gain_38 : decode cX8_gain 38 = .ok (.getfield 55, 3) := dget zdX8_gain_0 20 rfl
theorem dX8_gain_41 : decode cX8_gain 41 = .ok (.getfield 197, 3) := dget zdX8_gain_0 21 rfl
theorem dX8_gain_44 : decode cX8_gain 44 = .ok (.goto 19, 3) := dget zdX8_gain_0 22 rfl
theorem dX8_gain_47 : decode cX8_gain 47 = .ok (.aload_n 0, 1) := dget zdX8_gain_0 23 rfl
theorem dX8_gain_48 : decode cX8_gain 48 = .ok (.getfield 19, 3) := dget zdX8_gain_0 24 rfl
theorem dX8_gain_51 : decode cX8_gain 51 = .ok (.iload_n 1, 1) := dget zdX8_gain_0 25 rfl
theorem dX8_gain_52 : decode cX8_gain 52 = .ok (.invokevirtual 156, 3) := dget zdX8_gain_0 26 rfl
theorem dX8_gain_55 : decode cX8_gain 55 = .ok (.aload_n 0, 1) := dget zdX8_gain_0 27 rfl
theorem dX8_gain_56 : decode cX8_gain 56 = .ok (.getfield 55, 3) := dget zdX8_gain_0 28 rfl
theorem dX8_gain_59 : decode cX8_gain 59 = .ok (.getfield 200, 3) := dget zdX8_gain_0 29 rfl
theorem dX8_gain_62 : decode cX8_gain 62 = .ok (.iadd, 1) := dget zdX8_gain_0 30 rfl
theorem dX8_gain_63 : decode cX8_gain 63 = .ok (.ireturn, 1) := dget zdX8_gain_0 31 rfl
theorem zdX8_spoil_0 : dchk cX8_spoil [(0, .iload_n 1, 1), (1, .invokestatic 153, 3), (4, .ifCond .eq 22, 3), (7, .iload_n 2, 1), (8, .invokestatic 153, 3), (11, .ifCond .eq 15, 3), (14, .iload_n 1, 1), (15, .iload_n 2, 1), (16, .if_icmp .eq 10, 3), (19, .iload_n 3, 1), (20, .invokestatic 117, 3), (23, .ifCond .ne 5, 3), (26, .iconst (-1), 1), (27, .ireturn, 1), (28, .aload_n 0, 1), (29, .getfield 55, 3), (32, .aload_n 0, 1), (33, .getfield 19, 3), (36, .aload_n 0, 1), (37, .getfield 48, 3), (40, .iload_n 2, 1), (41, .iconst 1, 1), (42, .invokevirtual 193, 3), (45, .iload_n 3, 1), (46, .ifCond .ne 13, 3), (49, .aload_n 0, 1), (50, .getfield 55, 3), (53, .getfield 197, 3), (56, .goto 19, 3), (59, .aload_n 0, 1), (60, .getfield 19, 3), (63, .iload_n 2, 1), (64, .invokevirtual 156, 3), (67, .aload_n 0, 1), (68, .getfield 55, 3), (71, .getfield 200, 3), (74, .isub, 1), (75, .ireturn, 1)] = true := by decide +kernel
theorem dX8_spoil_0 : decode cX8_spoil 0 = .ok (.iload_n 1, 1) := dget zdX8_spoil_0 0 rfl
theorem dX8_spoil_1 : decode cX8_spoil 1 = .ok (.invokestatic 153, 3) := dget zdX8_spoil_0 1 rfl
theorem dX8_spoil_4 : decode cX8_spoil 4 = .ok (.ifCond .eq 22, 3) := dget zdX8_spoil_0 2 rfl
theorem dX8_spoil_7 : decode cX8_spoil 7 = .ok (.iload_n 2, 1) := dget zdX8_spoil_0 3 rfl
theorem dX8_spoil_8 : decode cX8_spoil 8 = .ok (.invokestatic 153, 3) := dget zdX8_spoil_0 4 rfl
theorem dX8_spoil_11 : decode cX8_spoil 11 = .ok (.ifCond .eq 15, 3) := dget zdX8_spoil_0 5 rfl
theorem dX8_spoil_14 : decode cX8_spoil 14 = .ok (.iload_n 1, 1) := dget zdX8_spoil_0 6 rfl
theorem dX8_spoil_15 : decode cX8_spoil 15 = .ok (.iload_n 2, 1) := dget zdX8_spoil_0 7 rfl
theorem dX8_spoil_16 : decode cX8_spoil 16 = .ok (.if_icmp .eq 10, 3) := dget zdX8_spoil_0 8 rfl
theorem dX8_spoil_19 : decode cX8_spoil 19 = .ok (.iload_n 3, 1) := dget zdX8_spoil_0 9 rfl
theorem dX8_spoil_20 : decode cX8_spoil 20 = .ok (.invokestatic 117, 3) := dget zdX8_spoil_0 10 rfl
theorem dX8_spoil_23 : decode cX8_spoil 23 = .ok (.ifCond .ne 5, 3) := dget zdX8_spoil_0 11 rfl
theorem dX8_spoil_26 : decode cX8_spoil 26 = .ok (.iconst (-1), 1) := dget zdX8_spoil_0 12 rfl
theorem dX8_spoil_27 : decode cX8_spoil 27 = .ok (.ireturn, 1) := dget zdX8_spoil_0 13 rfl
theorem dX8_spoil_28 : decode cX8_spoil 28 = .ok (.aload_n 0, 1) := dget zdX8_spoil_0 14 rfl
theorem dX8_spoil_29 : decode cX8_spoil 29 = .ok (.getfield 55, 3) := dget zdX8_spoil_0 15 rfl
theorem dX8_spoil_32 : decode cX8_spoil 32 = .ok (.aload_n 0, 1) := dget zdX8_spoil_0 16 rfl
theorem dX8_spoil_33 : decode cX8_spoil 33 = .ok (.getfield 19, 3) := dget zdX8_spoil_0 17 rfl
theorem dX8_spoil_36 : decode cX8_spoil 36 = .ok (.aload_n 0, 1) := dget zdX8_spoil_0 18 rfl
theorem dX8_spoil_37 : decode cX8_spoil 37 = .ok (.getfield 48, 3) := dget zdX8_spoil_0 19 rfl
theorem dX8_spoil_40 : decode cX8_spoil 40 = .ok (.iload_n 2, 1) := dget zdX8_spoil_0 20 rfl
theorem dX8_spoil_41 : decode cX8_spoil 41 = .ok (.iconst 1, 1) := dget zdX8_spoil_0 21 rfl
theorem dX8_spoil_42 : decode cX8_spoil 42 = .ok (.invokevirtual 193, 3) := dget zdX8_spoil_0 22 rfl
theorem dX8_spoil_45 : decode cX8_spoil 45 = .ok (.iload_n 3, 1) := dget zdX8_spoil_0 23 rfl
theorem dX8_spoil_46 : decode cX8_spoil 46 = .ok (.ifCond .ne 13, 3) := dget zdX8_spoil_0 24 rfl
theorem dX8_spoil_49 : decode cX8_spoil 49 = .ok (.aload_n 0, 1) := dget zdX8_spoil_0 25 rfl
theorem dX8_spoil_50 : decode cX8_spoil 50 = .ok (.getfield 55, 3) := dget zdX8_spoil_0 26 rfl
theorem dX8_spoil_53 : decode cX8_spoil 53 = .ok (.getfield 197, 3) := dget zdX8_spoil_0 27 rfl
theorem dX8_spoil_56 : decode cX8_spoil 56 = .ok (.goto 19, 3) := dget zdX8_spoil_0 28 rfl
theorem dX8_spoil_59 : decode cX8_spoil 59 = .ok (.aload_n 0, 1) := dget zdX8_spoil_0 29 rfl
theorem dX8_spoil_60 : decode cX8_spoil 60 = .ok (.getfield 19, 3) := dget zdX8_spoil_0 30 rfl
theorem dX8_spoil_63 : decode cX8_spoil 63 = .ok (.iload_n 2, 1) := dget zdX8_spoil_0 31 rfl
theorem dX8_spoil_64 : decode cX8_spoil 64 = .ok (.invokevirtual 156, 3) := dget zdX8_spoil_0 32 rfl
theorem dX8_spoil_67 : decode cX8_spoil 67 = .ok (.aload_n 0, 1) := dget zdX8_spoil_0 33 rfl
theorem dX8_spoil_68 : decode cX8_spoil 68 = .ok (.getfield 55, 3) := dget zdX8_spoil_0 34 rfl
theorem dX8_spoil_71 : decode cX8_spoil 71 = .ok (.getfield 200, 3) := dget zdX8_spoil_0 35 rfl
theorem dX8_spoil_74 : decode cX8_spoil 74 = .ok (.isub, 1) := dget zdX8_spoil_0 36 rfl
theorem dX8_spoil_75 : decode cX8_spoil 75 = .ok (.ireturn, 1) := dget zdX8_spoil_0 37 rfl
theorem zdX8_cure_0 : dchk cX8_cure [(0, .aload_n 0, 1), (1, .iload_n 1, 1), (2, .iload_n 2, 1), (3, .iload_n 3, 1), (4, .invokevirtual 130, 3), (7, .ifCond .eq 15, 3), (10, .aload_n 0, 1), (11, .getfield 19, 3), (14, .iload 4, 2), (16, .invokevirtual 114, 3), (19, .ifCond .ne 5, 3), (22, .iconst (-1), 1), (23, .ireturn, 1), (24, .aload_n 0, 1), (25, .getfield 48, 3), (28, .aload_n 0, 1), (29, .getfield 19, 3), (32, .iload_n 1, 1), (33, .iload_n 2, 1), (34, .iload_n 3, 1), (35, .invokevirtual 134, 3), (38, .aload_n 0, 1), (39, .getfield 48, 3), (42, .getfield 138, 3), (45, .iload 4, 2), (47, .if_icmp .ne 6, 3), (50, .bipush (-4), 2), (52, .ireturn, 1), (53, .iconst 0, 1), (54, .istore 5, 2), (56, .iload 5, 2), (58, .aload_n 0, 1), (59, .getfield 19, 3), (62, .invokevirtual 111, 3), (65, .if_icmp .ge 38, 3), (68, .aload_n 0, 1), (69, .iload 5, 2), (71, .iload_n 1, 1), (72, .iload_n 2, 1), (73, .iload_n 3, 1), (74, .iload 4, 2), (76, .invokevirtual 203, 3), (79, .istore 6, 2), (81, .iload 6, 2), (83, .bipush (-4), 2), (85, .if_icmp .eq 12, 3), (88, .bipush 10, 2), (90, .iload 5, 2), (92, .imul, 1), (93, .iload 6, 2), (95, .iadd, 1), (96, .ireturn, 1), (97, .iinc 5 1, 3), (100, .goto (-44), 3), (103, .bipush (-4), 2), (105, .ireturn, 1)] = true := by decide +kernel
theorem dX8_cure_0 : decode cX8_cure 0 = .ok (.aload_n 0, 1) := dget zdX8_cure_0 0 rfl
theorem dX8_cure_1 : decode cX8_cure 1 = .ok (.iload_n 1, 1) := dget zdX8_cure_0 1 rfl
theorem dX8_cure_2 : decode cX8_cure 2 = .ok (.iload_n 2, 1) := dget zdX8_cure_0 2 rfl
theorem dX8_cure_3 : decode cX8_cure 3 = .ok (.iload_n 3, 1) := dget zdX8_cure_0 3 rfl
theorem dX8_cure_4 : decode cX8_cure 4 = .ok (.invokevirtual 130, 3) := dget zdX8_cure_0 4 rfl
theorem dX8_cure_7 : decode cX8_cure 7 = .ok (.ifCond .eq 15, 3) := dget zdX8_cure_0 5 rfl
theorem dX8_cure_10 : decode cX8_cure 10 = .ok (.aload_n 0, 1) := dget zdX8_cure_0 6 rfl
theorem dX8_cure_11 : decode cX8_cure 11 = .ok (.getfield 19, 3) := dget zdX8_cure_0 7 rfl
theorem dX8_cure_14 : decode cX8_cure 14 = .ok (.iload 4, 2) := dget zdX8_cure_0 8 rfl
theorem dX8_cure_16 : decode cX8_cure 16 = .ok (.invokevirtual 114, 3) := dget zdX8_cure_0 9 rfl
theorem dX8_cure_19 : decode cX8_cure 19 = .ok (.ifCond .ne 5, 3) := dget zdX8_cure_0 10 rfl
theorem dX8_cure_22 : decode cX8_cure 22 = .ok (.iconst (-1), 1) := dget zdX8_cure_0 11 rfl
theorem dX8_cure_23 : decode cX8_cure 23 = .ok (.ireturn, 1) := dget zdX8_cure_0 12 rfl
theorem dX8_cure_24 : decode cX8_cure 24 = .ok (.aload_n 0, 1) := dget zdX8_cure_0 13 rfl
theorem dX8_cure_25 : decode cX8_cure 25 = .ok (.getfield 48, 3) := dget zdX8_cure_0 14 rfl
theorem dX8_cure_28 : decode cX8_cure 28 = .ok (.aload_n 0, 1) := dget zdX8_cure_0 15 rfl
theorem dX8_cure_29 : decode cX8_cure 29 = .ok (.getfield 19, 3) := dget zdX8_cure_0 16 rfl
theorem dX8_cure_32 : decode cX8_cure 32 = .ok (.iload_n 1, 1) := dget zdX8_cure_0 17 rfl
theorem dX8_cure_33 : decode cX8_cure 33 = .ok (.iload_n 2, 1) := dget zdX8_cure_0 18 rfl
theorem dX8_cure_34 : decode cX8_cure 34 = .ok (.iload_n 3, 1) := dget zdX8_cure_0 19 rfl
theorem dX8_cure_35 : decode cX8_cure 35 = .ok (.invokevirtual 134, 3) := dget zdX8_cure_0 20 rfl
theorem dX8_cure_38 : decode cX8_cure 38 = .ok (.aload_n 0, 1) := dget zdX8_cure_0 21 rfl
theorem dX8_cure_39 : decode cX8_cure 39 = .ok (.getfield 48, 3) := dget zdX8_cure_0 22 rfl
theorem dX8_cure_42 : decode cX8_cure 42 = .ok (.getfield 138, 3) := dget zdX8_cure_0 23 rfl
theorem dX8_cure_45 : decode cX8_cure 45 = .ok (.iload 4, 2) := dget zdX8_cure_0 24 rfl
theorem dX8_cure_47 : decode cX8_cure 47 = .ok (.if_icmp .ne 6, 3) := dget zdX8_cure_0 25 rfl
theorem dX8_cure_50 : decode cX8_cure 50 = .ok (.bipush (-4), 2) := dget zdX8_cure_0 26 rfl
theorem dX8_cure_52 : decode cX8_cure 52 = .ok (.ireturn, 1) := dget zdX8_cure_0 27 rfl
theorem dX8_cure_53 : decode cX8_cure 53 = .ok (.iconst 0, 1) := dget zdX8_cure_0 28 rfl
theorem dX8_cure_54 : decode cX8_cure 54 = .ok (.istore 5, 2) := dget zdX8_cure_0 29 rfl
theorem dX8_cure_56 : decode cX8_cure 56 = .ok (.iload 5, 2) := dget zdX8_cure_0 30 rfl
theorem dX8_cure_58 : decode cX8_cure 58 = .ok (.aload_n 0, 1) := dget zdX8_cure_0 31 rfl
theorem dX8_cure_59 : decode cX8_cure 59 = .ok (.getfield 19, 3) := dget zdX8_cure_0 32 rfl
theorem dX8_cure_62 : decode cX8_cure 62 = .ok (.invokevirtual 111, 3) := dget zdX8_cure_0 33 rfl
theorem dX8_cure_65 : decode cX8_cure 65 = .ok (.if_icmp .ge 38, 3) := dget zdX8_cure_0 34 rfl
theorem dX8_cure_68 : decode cX8_cure 68 = .ok (.aload_n 0, 1) := dget zdX8_cure_0 35 rfl
theorem dX8_cure_69 : decode cX8_cure 69 = .ok (.iload 5, 2) := dget zdX8_cure_0 36 rfl
theorem dX8_cure_71 : decode cX8_cure 71 = .ok (.iload_n 1, 1) := dget zdX8_cure_0 37 rfl
theorem dX8_cure_72 : decode cX8_cure 72 = .ok (.iload_n 2, 1) := dget zdX8_cure_0 38 rfl
theorem dX8_cure_73 : decode cX8_cure 73 = .ok (.iload_n 3, 1) := dget zdX8_cure_0 39 rfl
theorem dX8_cure_74 : decode cX8_cure 74 = .ok (.iload 4, 2) := dget zdX8_cure_0 40 rfl
theorem dX8_cure_76 : decode cX8_cure 76 = .ok (.invokevirtual 203, 3) := dget zdX8_cure_0 41 rfl
theorem dX8_cure_79 : decode cX8_cure 79 = .ok (.istore 6, 2) := dget zdX8_cure_0 42 rfl
theorem dX8_cure_81 : decode cX8_cure 81 = .ok (.iload 6, 2) := dget zdX8_cure_0 43 rfl
theorem dX8_cure_83 : decode cX8_cure 83 = .ok (.bipush (-4), 2) := dget zdX8_cure_0 44 rfl
theorem dX8_cure_85 : decode cX8_cure 85 = .ok (.if_icmp .eq 12, 3) := dget zdX8_cure_0 45 rfl
theorem dX8_cure_88 : decode cX8_cure 88 = .ok (.bipush 10, 2) := dget zdX8_cure_0 46 rfl
theorem dX8_cure_90 : decode cX8_cure 90 = .ok (.iload 5, 2) := dget zdX8_cure_0 47 rfl
theorem dX8_cure_92 : decode cX8_cure 92 = .ok (.imul, 1) := dget zdX8_cure_0 48 rfl
theorem dX8_cure_93 : decode cX8_cure 93 = .ok (.iload 6, 2) := dget zdX8_cure_0 49 rfl
theorem dX8_cure_95 : decode cX8_cure 95 = .ok (.iadd, 1) := dget zdX8_cure_0 50 rfl
theorem dX8_cure_96 : decode cX8_cure 96 = .ok (.ireturn, 1) := dget zdX8_cure_0 51 rfl
theorem dX8_cure_97 : decode cX8_cure 97 = .ok (.iinc 5 1, 3) := dget zdX8_cure_0 52 rfl
theorem dX8_cure_100 : decode cX8_cure 100 = .ok (.goto (-44), 3) := dget zdX8_cure_0 53 rfl
theorem dX8_cure_103 : decode cX8_cure 103 = .ok (.bipush (-4), 2) := dget zdX8_cure_0 54 rfl
theorem dX8_cure_105 : decode cX8_cure 105 = .ok (.ireturn, 1) := dget zdX8_cure_0 55 rfl
theorem zdX8_pieces_0 : dchk cX8_pieces [(0, .iload_n 1, 1), (1, .invokestatic 153, 3), (4, .ifCond .eq 18, 3), (7, .aload_n 0, 1), (8, .getfield 62, 3), (11, .aload_n 0, 1), (12, .getfield 19, 3), (15, .iload_n 1, 1), (16, .invokevirtual 207, 3), (19, .goto 4, 3), (22, .iconst (-1), 1), (23, .ireturn, 1)] = true := by decide +kernel
theorem dX8_pieces_0 : decode cX8_pieces 0 = .ok (.iload_n 1, 1) := dget zdX8_pieces_0 0 rfl
theorem dX8_pieces_1 : decode cX8_pieces 1 = .ok (.invokestatic 153, 3) := dget zdX8_pieces_0 1 rfl
theorem dX8_pieces_4 : decode cX8_pieces 4 = .ok (.ifCond .eq 18, 3) := dget zdX8_pieces_0 2 rfl
theorem dX8_pieces_7 : decode cX8_pieces 7 = .ok (.aload_n 0, 1) := dget zdX8_pieces_0 3 rfl
theorem dX8_pieces_8 : decode cX8_pieces 8 = .ok (.getfield 62, 3) := dget zdX8_pieces_0 4 rfl
theorem dX8_pieces_11 : decode cX8_pieces 11 = .ok (.aload_n 0, 1) := dget zdX8_pieces_0 5 rfl
theorem dX8_pieces_12 : decode cX8_pieces 12 = .ok (.getfield 19, 3) := dget zdX8_pieces_0 6 rfl
theorem dX8_pieces_15 : decode cX8_pieces 15 = .ok (.iload_n 1, 1) := dget zdX8_pieces_0 7 rfl
theorem dX8_pieces_16 : decode cX8_pieces 16 = .ok (.invokevirtual 207, 3) := dget zdX8_pieces_0 8 rfl
theorem dX8_pieces_19 : decode cX8_pieces 19 = .ok (.goto 4, 3) := dget zdX8_pieces_0 9 rfl
theorem dX8_pieces_22 : decode cX8_pieces 22 = .ok (.iconst (-1), 1) := dget zdX8_pieces_0 10 rfl
theorem dX8_pieces_23 : decode cX8_pieces 23 = .ok (.ireturn, 1) := dget zdX8_pieces_0 11 rfl
theorem zdX8_bridge_0 : dchk cX8_bridge [(0, .iload_n 1, 1), (1, .invokestatic 153, 3), (4, .ifCond .eq 25, 3), (7, .aload_n 0, 1), (8, .getfield 19, 3), (11, .iload_n 2, 1), (12, .invokevirtual 114, 3), (15, .ifCond .eq 14, 3), (18, .aload_n 0, 1), (19, .getfield 19, 3), (22, .iload_n 3, 1), (23, .invokevirtual 114, 3), (26, .ifCond .ne 5, 3), (29, .iconst (-1), 1), (30, .ireturn, 1), (31, .aload_n 0, 1), (32, .getfield 19, 3), (35, .iload_n 2, 1), (36, .invokevirtual 124, 3), (39, .iload_n 1, 1), (40, .if_icmp .ne 15, 3), (43, .aload_n 0, 1), (44, .getfield 19, 3), (47, .iload_n 3, 1), (48, .invokevirtual 124, 3), (51, .iload_n 1, 1), (52, .if_icmp .eq 6, 3), (55, .bipush (-2), 2), (57, .ireturn, 1), (58, .aload_n 0, 1), (59, .getfield 62, 3), (62, .aload_n 0, 1), (63, .getfield 19, 3), (66, .iload_n 1, 1), (67, .iload_n 2, 1), (68, .iload_n 3, 1), (69, .invokevirtual 211, 3), (72, .ireturn, 1)] = true := by decide +kernel
theorem dX8_bridge_0 : decode cX8_bridge 0 = .ok (.iload_n 1, 1) := dget zdX8_bridge_0 0 rfl
theorem dX8_bridge_1 : decode cX8_bridge 1 = .ok (.invokestatic 153, 3) := dget zdX8_bridge_0 1 rfl
theorem dX8_bridge_4 : decode cX8_bridge 4 = .ok (.ifCond .eq 25, 3) := dget zdX8_bridge_0 2 rfl
theorem dX8_bridge_7 : decode cX8_bridge 7 = .ok (.aload_n 0, 1) := dget zdX8_bridge_0 3 rfl
theorem dX8_bridge_8 : decode cX8_bridge 8 = .ok (.getfield 19, 3) := dget zdX8_bridge_0 4 rfl
theorem dX8_bridge_11 : decode cX8_bridge 11 = .ok (.iload_n 2, 1) := dget zdX8_bridge_0 5 rfl
theorem dX8_bridge_12 : decode cX8_bridge 12 = .ok (.invokevirtual 114, 3) := dget zdX8_bridge_0 6 rfl
theorem dX8_bridge_15 : decode cX8_bridge 15 = .ok (.ifCond .eq 14, 3) := dget zdX8_bridge_0 7 rfl
theorem dX8_bridge_18 : decode cX8_bridge 18 = .ok (.aload_n 0, 1) := dget zdX8_bridge_0 8 rfl
theorem dX8_bridge_19 : decode cX8_bridge 19 = .ok (.getfield 19, 3) := dget zdX8_bridge_0 9 rfl
theorem dX8_bridge_22 : decode cX8_bridge 22 = .ok (.iload_n 3, 1) := dget zdX8_bridge_0 10 rfl
theorem dX8_bridge_23 : decode cX8_bridge 23 = .ok (.invokevirtual 114, 3) := dget zdX8_bridge_0 11 rfl
theorem dX8_bridge_26 : decode cX8_bridge 26 = .ok (.ifCond .ne 5, 3) := dget zdX8_bridge_0 12 rfl
theorem dX8_bridge_29 : decode cX8_bridge 29 = .ok (.iconst (-1), 1) := dget zdX8_bridge_0 13 rfl
theorem dX8_bridge_30 : decode cX8_bridge 30 = .ok (.ireturn, 1) := dget zdX8_bridge_0 14 rfl
theorem dX8_bridge_31 : decode cX8_bridge 31 = .ok (.aload_n 0, 1) := dget zdX8_bridge_0 15 rfl
theorem dX8_bridge_32 : decode cX8_bridge 32 = .ok (.getfield 19, 3) := dget zdX8_bridge_0 16 rfl
theorem dX8_bridge_35 : decode cX8_bridge 35 = .ok (.iload_n 2, 1) := dget zdX8_bridge_0 17 rfl
theorem dX8_bridge_36 : decode cX8_bridge 36 = .ok (.invokevirtual 124, 3) := dget zdX8_bridge_0 18 rfl
theorem dX8_bridge_39 : decode cX8_bridge 39 = .ok (.iload_n 1, 1) := dget zdX8_bridge_0 19 rfl
theorem dX8_bridge_40 : decode cX8_bridge 40 = .ok (.if_icmp .ne 15, 3) := dget zdX8_bridge_0 20 rfl
theorem dX8_bridge_43 : decode cX8_bridge 43 = .ok (.aload_n 0, 1) := dget zdX8_bridge_0 21 rfl
theorem dX8_bridge_44 : decode cX8_bridge 44 = .ok (.getfield 19, 3) := dget zdX8_bridge_0 22 rfl
theorem dX8_bridge_47 : decode cX8_bridge 47 = .ok (.iload_n 3, 1) := dget zdX8_bridge_0 23 rfl
theorem dX8_bridge_48 : decode cX8_bridge 48 = .ok (.invokevirtual 124, 3) := dget zdX8_bridge_0 24 rfl
theorem dX8_bridge_51 : decode cX8_bridge 51 = .ok (.iload_n 1, 1) := dget zdX8_bridge_0 25 rfl
theorem dX8_bridge_52 : decode cX8_bridge 52 = .ok (.if_icmp .eq 6, 3) := dget zdX8_bridge_0 26 rfl
theorem dX8_bridge_55 : decode cX8_bridge 55 = .ok (.bipush (-2), 2) := dget zdX8_bridge_0 27 rfl
theorem dX8_bridge_57 : decode cX8_bridge 57 = .ok (.ireturn, 1) := dget zdX8_bridge_0 28 rfl
theorem dX8_bridge_58 : decode cX8_bridge 58 = .ok (.aload_n 0, 1) := dget zdX8_bridge_0 29 rfl
theorem dX8_bridge_59 : decode cX8_bridge 59 = .ok (.getfield 62, 3) := dget zdX8_bridge_0 30 rfl
theorem dX8_bridge_62 : decode cX8_bridge 62 = .ok (.aload_n 0, 1) := dget zdX8_bridge_0 31 rfl
theorem dX8_bridge_63 : decode cX8_bridge 63 = .ok (.getfield 19, 3) := dget zdX8_bridge_0 32 rfl
theorem dX8_bridge_66 : decode cX8_bridge 66 = .ok (.iload_n 1, 1) := dget zdX8_bridge_0 33 rfl
theorem dX8_bridge_67 : decode cX8_bridge 67 = .ok (.iload_n 2, 1) := dget zdX8_bridge_0 34 rfl
theorem dX8_bridge_68 : decode cX8_bridge 68 = .ok (.iload_n 3, 1) := dget zdX8_bridge_0 35 rfl
theorem dX8_bridge_69 : decode cX8_bridge 69 = .ok (.invokevirtual 211, 3) := dget zdX8_bridge_0 36 rfl
theorem dX8_bridge_72 : decode cX8_bridge 72 = .ok (.ireturn, 1) := dget zdX8_bridge_0 37 rfl
theorem zdX8_seen_0 : dchk cX8_seen [(0, .aload_n 0, 1), (1, .iload_n 1, 1), (2, .iload_n 2, 1), (3, .iconst 0, 1), (4, .invokevirtual 130, 3), (7, .ifCond .eq 11, 3), (10, .aload_n 0, 1), (11, .iload_n 3, 1), (12, .invokevirtual 215, 3), (15, .ifCond .ne 5, 3), (18, .iconst (-1), 1), (19, .ireturn, 1), (20, .aload_n 0, 1), (21, .getfield 41, 3), (24, .iload_n 1, 1), (25, .iload_n 2, 1), (26, .iload_n 3, 1), (27, .invokevirtual 218, 3), (30, .ifCond .eq 13, 3), (33, .aload_n 0, 1), (34, .getfield 41, 3), (37, .getfield 221, 3), (40, .goto 5, 3), (43, .bipush (-3), 2), (45, .ireturn, 1)] = true := by decide +kernel
theorem dX8_seen_0 : decode cX8_seen 0 = .ok (.aload_n 0, 1) := dget zdX8_seen_0 0 rfl
theorem dX8_seen_1 : decode cX8_seen 1 = .ok (.iload_n 1, 1) := dget zdX8_seen_0 1 rfl
theorem dX8_seen_2 : decode cX8_seen 2 = .ok (.iload_n 2, 1) := dget zdX8_seen_0 2 rfl
theorem dX8_seen_3 : decode cX8_seen 3 = .ok (.iconst 0, 1) := dget zdX8_seen_0 3 rfl
theorem dX8_seen_4 : decode cX8_seen 4 = .ok (.invokevirtual 130, 3) := dget zdX8_seen_0 4 rfl
theorem dX8_seen_7 : decode cX8_seen 7 = .ok (.ifCond .eq 11, 3) := dget zdX8_seen_0 5 rfl
theorem dX8_seen_10 : decode cX8_seen 10 = .ok (.aload_n 0, 1) := dget zdX8_seen_0 6 rfl
theorem dX8_seen_11 : decode cX8_seen 11 = .ok (.iload_n 3, 1) := dget zdX8_seen_0 7 rfl
theorem dX8_seen_12 : decode cX8_seen 12 = .ok (.invokevirtual 215, 3) := dget zdX8_seen_0 8 rfl
theorem dX8_seen_15 : decode cX8_seen 15 = .ok (.ifCond .ne 5, 3) := dget zdX8_seen_0 9 rfl
theorem dX8_seen_18 : decode cX8_seen 18 = .ok (.iconst (-1), 1) := dget zdX8_seen_0 10 rfl
theorem dX8_seen_19 : decode cX8_seen 19 = .ok (.ireturn, 1) := dget zdX8_seen_0 11 rfl
theorem dX8_seen_20 : decode cX8_seen 20 = .ok (.aload_n 0, 1) := dget zdX8_seen_0 12 rfl
theorem dX8_seen_21 : decode cX8_seen 21 = .ok (.getfield 41, 3) := dget zdX8_seen_0 13 rfl
theorem dX8_seen_24 : decode cX8_seen 24 = .ok (.iload_n 1, 1) := dget zdX8_seen_0 14 rfl
theorem dX8_seen_25 : decode cX8_seen 25 = .ok (.iload_n 2, 1) := dget zdX8_seen_0 15 rfl
theorem dX8_seen_26 : decode cX8_seen 26 = .ok (.iload_n 3, 1) := dget zdX8_seen_0 16 rfl
theorem dX8_seen_27 : decode cX8_seen 27 = .ok (.invokevirtual 218, 3) := dget zdX8_seen_0 17 rfl
theorem dX8_seen_30 : decode cX8_seen 30 = .ok (.ifCond .eq 13, 3) := dget zdX8_seen_0 18 rfl
theorem dX8_seen_33 : decode cX8_seen 33 = .ok (.aload_n 0, 1) := dget zdX8_seen_0 19 rfl
theorem dX8_seen_34 : decode cX8_seen 34 = .ok (.getfield 41, 3) := dget zdX8_seen_0 20 rfl
theorem dX8_seen_37 : decode cX8_seen 37 = .ok (.getfield 221, 3) := dget zdX8_seen_0 21 rfl
theorem dX8_seen_40 : decode cX8_seen 40 = .ok (.goto 5, 3) := dget zdX8_seen_0 22 rfl
theorem dX8_seen_43 : decode cX8_seen 43 = .ok (.bipush (-3), 2) := dget zdX8_seen_0 23 rfl
theorem dX8_seen_45 : decode cX8_seen 45 = .ok (.ireturn, 1) := dget zdX8_seen_0 24 rfl
theorem zdX8_forget_0 : dchk cX8_forget [(0, .aload_n 0, 1), (1, .getfield 41, 3), (4, .getfield 221, 3), (7, .istore_n 1, 1), (8, .aload_n 0, 1), (9, .getfield 41, 3), (12, .invokevirtual 109, 3), (15, .iload_n 1, 1), (16, .ireturn, 1)] = true := by decide +kernel
theorem dX8_forget_0 : decode cX8_forget 0 = .ok (.aload_n 0, 1) := dget zdX8_forget_0 0 rfl
theorem dX8_forget_1 : decode cX8_forget 1 = .ok (.getfield 41, 3) := dget zdX8_forget_0 1 rfl
theorem dX8_forget_4 : decode cX8_forget 4 = .ok (.getfield 221, 3) := dget zdX8_forget_0 2 rfl
theorem dX8_forget_7 : decode cX8_forget 7 = .ok (.istore_n 1, 1) := dget zdX8_forget_0 3 rfl
theorem dX8_forget_8 : decode cX8_forget 8 = .ok (.aload_n 0, 1) := dget zdX8_forget_0 4 rfl
theorem dX8_forget_9 : decode cX8_forget 9 = .ok (.getfield 41, 3) := dget zdX8_forget_0 5 rfl
theorem dX8_forget_12 : decode cX8_forget 12 = .ok (.invokevirtual 109, 3) := dget zdX8_forget_0 6 rfl
theorem dX8_forget_15 : decode cX8_forget 15 = .ok (.iload_n 1, 1) := dget zdX8_forget_0 7 rfl
theorem dX8_forget_16 : decode cX8_forget 16 = .ok (.ireturn, 1) := dget zdX8_forget_0 8 rfl
theorem zdX8_lies_0 : dchk cX8_lies [(0, .aload_n 0, 1), (1, .getfield 19, 3), (4, .iload_n 1, 1), (5, .invokevirtual 114, 3), (8, .ifCond .ne 5, 3), (11, .iconst (-1), 1), (12, .ireturn, 1), (13, .aload_n 0, 1), (14, .getfield 19, 3), (17, .iload_n 1, 1), (18, .invokevirtual 120, 3), (21, .istore_n 2, 1), (22, .iconst 0, 1), (23, .istore_n 3, 1), (24, .iconst 0, 1), (25, .istore 4, 2), (27, .iload 4, 2), (29, .iconst 4, 1), (30, .if_icmp .ge 44, 3), (33, .aload_n 0, 1), (34, .getfield 19, 3), (37, .iload_n 1, 1), (38, .iload 4, 2), (40, .invokevirtual 169, 3), (43, .aload_n 0, 1), (44, .getfield 41, 3), (47, .aload_n 0, 1), (48, .getfield 19, 3), (51, .aload_n 0, 1), (52, .getfield 48, 3), (55, .invokevirtual 222, 3), (58, .ifCond .eq 10, 3), (61, .iload_n 3, 1), (62, .iconst 1, 1), (63, .iload 4, 2), (65, .ishl, 1), (66, .ior, 1), (67, .istore_n 3, 1), (68, .iinc 4 1, 3), (71, .goto (-44), 3), (74, .aload_n 0, 1), (75, .getfield 19, 3), (78, .iload_n 1, 1), (79, .iload_n 2, 1), (80, .invokevirtual 169, 3), (83, .iload_n 3, 1), (84, .ireturn, 1)] = true := by decide +kernel
theorem dX8_lies_0 : decode cX8_lies 0 = .ok (.aload_n 0, 1) := dget zdX8_lies_0 0 rfl
theorem dX8_lies_1 : decode cX8_lies 1 = .ok (.getfield 19, 3) := dget zdX8_lies_0 1 rfl
theorem dX8_lies_4 : decode cX8_lies 4 = .ok (.iload_n 1, 1) := dget zdX8_lies_0 2 rfl
theorem dX8_lies_5 : decode cX8_lies 5 = .ok (.invokevirtual 114, 3) := dget zdX8_lies_0 3 rfl
theorem dX8_lies_8 : decode cX8_lies 8 = .ok (.ifCond .ne 5, 3) := dget zdX8_lies_0 4 rfl
theorem dX8_lies_11 : decode cX8_lies 11 = .ok (.iconst (-1), 1) := dget zdX8_lies_0 5 rfl
theorem dX8_lies_12 : decode cX8_lies 12 = .ok (.ireturn, 1) := dget zdX8_lies_0 6 rfl
theorem dX8_lies_13 : decode cX8_lies 13 = .ok (.aload_n 0, 1) := dget zdX8_lies_0 7 rfl
theorem dX8_lies_14 : decode cX8_lies 14 = .ok (.getfield 19, 3) := dget zdX8_lies_0 8 rfl
theorem dX8_lies_17 : decode cX8_lies 17 = .ok (.iload_n 1, 1) := dget zdX8_lies_0 9 rfl
theorem dX8_lies_18 : decode cX8_lies 18 = .ok (.invokevirtual 120, 3) := dget zdX8_lies_0 10 rfl
theorem dX8_lies_21 : decode cX8_lies 21 = .ok (.istore_n 2, 1) := dget zdX8_lies_0 11 rfl
theorem dX8_lies_22 : decode cX8_lies 22 = .ok (.iconst 0, 1) := dget zdX8_lies_0 12 rfl
theorem dX8_lies_23 : decode cX8_lies 23 = .ok (.istore_n 3, 1) := dget zdX8_lies_0 13 rfl
theorem dX8_lies_24 : decode cX8_lies 24 = .ok (.iconst 0, 1) := dget zdX8_lies_0 14 rfl
theorem dX8_lies_25 : decode cX8_lies 25 = .ok (.istore 4, 2) := dget zdX8_lies_0 15 rfl
theorem dX8_lies_27 : decode cX8_lies 27 = .ok (.iload 4, 2) := dget zdX8_lies_0 16 rfl
theorem dX8_lies_29 : decode cX8_lies 29 = .ok (.iconst 4, 1) := dget zdX8_lies_0 17 rfl
theorem dX8_lies_30 : decode cX8_lies 30 = .ok (.if_icmp .ge 44, 3) := dget zdX8_lies_0 18 rfl
theorem dX8_lies_33 : decode cX8_lies 33 = .ok (.aload_n 0, 1) := dget zdX8_lies_0 19 rfl
theorem dX8_lies_34 : decode cX8_lies 34 = .ok (.getfield 19, 3) := dget zdX8_lies_0 20 rfl
theorem dX8_lies_37 : decode cX8_lies 37 = .ok (.iload_n 1, 1) := dget zdX8_lies_0 21 rfl
theorem dX8_lies_38 : decode cX8_lies 38 = .ok (.iload 4, 2) := dget zdX8_lies_0 22 rfl
theorem dX8_lies_40 : decode cX8_lies 40 = .ok (.invokevirtual 169, 3) := dget zdX8_lies_0 23 rfl
theorem dX8_lies_43 : decode cX8_lies 43 = .ok (.aload_n 0, 1) := dget zdX8_lies_0 24 rfl
theorem dX8_lies_44 : decode cX8_lies 44 = .ok (.getfield 41, 3) := dget zdX8_lies_0 25 rfl
theorem dX8_lies_47 : decode cX8_lies 47 = .ok (.aload_n 0, 1) := dget zdX8_lies_0 26 rfl
theorem dX8_lies_48 : decode cX8_lies 48 = .ok (.getfield 19, 3) := dget zdX8_lies_0 27 rfl
theorem dX8_lies_51 : decode cX8_lies 51 = .ok (.aload_n 0, 1) := dget zdX8_lies_0 28 rfl
theorem dX8_lies_52 : decode cX8_lies 52 = .ok (.getfield 48, 3) := dget zdX8_lies_0 29 rfl
theorem dX8_lies_55 : decode cX8_lies 55 = .ok (.invokevirtual 222, 3) := dget zdX8_lies_0 30 rfl
theorem dX8_lies_58 : decode cX8_lies 58 = .ok (.ifCond .eq 10, 3) := dget zdX8_lies_0 31 rfl
theorem dX8_lies_61 : decode cX8_lies 61 = .ok (.iload_n 3, 1) := dget zdX8_lies_0 32 rfl
theorem dX8_lies_62 : decode cX8_lies 62 = .ok (.iconst 1, 1) := dget zdX8_lies_0 33 rfl
theorem dX8_lies_63 : decode cX8_lies 63 = .ok (.iload 4, 2) := dget zdX8_lies_0 34 rfl
theorem dX8_lies_65 : decode cX8_lies 65 = .ok (.ishl, 1) := dget zdX8_lies_0 35 rfl
theorem dX8_lies_66 : decode cX8_lies 66 = .ok (.ior, 1) := dget zdX8_lies_0 36 rfl
theorem dX8_lies_67 : decode cX8_lies 67 = .ok (.istore_n 3, 1) := dget zdX8_lies_0 37 rfl
theorem dX8_lies_68 : decode cX8_lies 68 = .ok (.iinc 4 1, 3) := dget zdX8_lies_0 38 rfl
theorem dX8_lies_71 : decode cX8_lies 71 = .ok (.goto (-44), 3) := dget zdX8_lies_0 39 rfl
theorem dX8_lies_74 : decode cX8_lies 74 = .ok (.aload_n 0, 1) := dget zdX8_lies_0 40 rfl
theorem dX8_lies_75 : decode cX8_lies 75 = .ok (.getfield 19, 3) := dget zdX8_lies_0 41 rfl
theorem dX8_lies_78 : decode cX8_lies 78 = .ok (.iload_n 1, 1) := dget zdX8_lies_0 42 rfl
theorem dX8_lies_79 : decode cX8_lies 79 = .ok (.iload_n 2, 1) := dget zdX8_lies_0 43 rfl
theorem dX8_lies_80 : decode cX8_lies 80 = .ok (.invokevirtual 169, 3) := dget zdX8_lies_0 44 rfl
theorem dX8_lies_83 : decode cX8_lies 83 = .ok (.iload_n 3, 1) := dget zdX8_lies_0 45 rfl
theorem dX8_lies_84 : decode cX8_lies 84 = .ok (.ireturn, 1) := dget zdX8_lies_0 46 rfl
theorem zdX8_heavy_0 : dchk cX8_heavy [(0, .aload_n 0, 1), (1, .getfield 19, 3), (4, .iload_n 1, 1), (5, .invokevirtual 226, 3), (8, .ifCond .eq 18, 3), (11, .aload_n 0, 1), (12, .iload_n 2, 1), (13, .invokevirtual 215, 3), (16, .ifCond .eq 10, 3), (19, .iload_n 3, 1), (20, .invokestatic 117, 3), (23, .ifCond .ne 5, 3), (26, .iconst (-1), 1), (27, .ireturn, 1), (28, .iconst 0, 1), (29, .istore 4, 2), (31, .bipush (-4), 2), (33, .istore 5, 2), (35, .bipush 20, 2), (37, .istore 6, 2), (39, .iload 6, 2), (41, .iconst 1, 1), (42, .if_icmp .lt 42, 3), (45, .aload_n 0, 1), (46, .getfield 48, 3), (49, .aload_n 0, 1), (50, .getfield 19, 3), (53, .iload_n 1, 1), (54, .iload 6, 2), (56, .iconst 0, 1), (57, .invokevirtual 134, 3), (60, .aload_n 0, 1), (61, .getfield 48, 3), (64, .getfield 138, 3), (67, .iload_n 2, 1), (68, .if_icmp .ne 10, 3), (71, .iinc 4 1, 3), (74, .iload 6, 2), (76, .istore 5, 2), (78, .iinc 6 (-1), 3), (81, .goto (-42), 3), (84, .iload_n 3, 1), (85, .ifCond .ne 8, 3), (88, .iload 4, 2), (90, .goto 5, 3), (93, .iload 5, 2), (95, .ireturn, 1)] = true := by decide +kernel
theorem dX8_heavy_0 : decode cX8_heavy 0 = .ok (.aload_n 0, 1) := dget zdX8_heavy_0 0 rfl
theorem dX8_heavy_1 : decode cX8_heavy 1 = .ok (.getfield 19, 3) := dget zdX8_heavy_0 1 rfl
theorem dX8_heavy_4 : decode cX8_heavy 4 = .ok (.iload_n 1, 1) := dget zdX8_heavy_0 2 rfl
theorem dX8_heavy_5 : decode cX8_heavy 5 = .ok (.invokevirtual 226, 3) := dget zdX8_heavy_0 3 rfl
theorem dX8_heavy_8 : decode cX8_heavy 8 = .ok (.ifCond .eq 18, 3) := dget zdX8_heavy_0 4 rfl
theorem dX8_heavy_11 : decode cX8_heavy 11 = .ok (.aload_n 0, 1) := dget zdX8_heavy_0 5 rfl
theorem dX8_heavy_12 : decode cX8_heavy 12 = .ok (.iload_n 2, 1) := dget zdX8_heavy_0 6 rfl
theorem dX8_heavy_13 : decode cX8_heavy 13 = .ok (.invokevirtual 215, 3) := dget zdX8_heavy_0 7 rfl
theorem dX8_heavy_16 : decode cX8_heavy 16 = .ok (.ifCond .eq 10, 3) := dget zdX8_heavy_0 8 rfl
theorem dX8_heavy_19 : decode cX8_heavy 19 = .ok (.iload_n 3, 1) := dget zdX8_heavy_0 9 rfl
theorem dX8_heavy_20 : decode cX8_heavy 20 = .ok (.invokestatic 117, 3) := dget zdX8_heavy_0 10 rfl
theorem dX8_heavy_23 : decode cX8_heavy 23 = .ok (.ifCond .ne 5, 3) := dget zdX8_heavy_0 11 rfl
theorem dX8_heavy_26 : decode cX8_heavy 26 = .ok (.iconst (-1), 1) := dget zdX8_heavy_0 12 rfl
theorem dX8_heavy_27 : decode cX8_heavy 27 = .ok (.ireturn, 1) := dget zdX8_heavy_0 13 rfl
theorem dX8_heavy_28 : decode cX8_heavy 28 = .ok (.iconst 0, 1) := dget zdX8_heavy_0 14 rfl
theorem dX8_heavy_29 : decode cX8_heavy 29 = .ok (.istore 4, 2) := dget zdX8_heavy_0 15 rfl
theorem dX8_heavy_31 : decode cX8_heavy 31 = .ok (.bipush (-4), 2) := dget zdX8_heavy_0 16 rfl
theorem dX8_heavy_33 : decode cX8_heavy 33 = .ok (.istore 5, 2) := dget zdX8_heavy_0 17 rfl
theorem dX8_heavy_35 : decode cX8_heavy 35 = .ok (.bipush 20, 2) := dget zdX8_heavy_0 18 rfl
theorem dX8_heavy_37 : decode cX8_heavy 37 = .ok (.istore 6, 2) := dget zdX8_heavy_0 19 rfl
theorem dX8_heavy_39 : decode cX8_heavy 39 = .ok (.iload 6, 2) := dget zdX8_heavy_0 20 rfl
theorem dX8_heavy_41 : decode cX8_heavy 41 = .ok (.iconst 1, 1) := dget zdX8_heavy_0 21 rfl
theorem dX8_heavy_42 : decode cX8_heavy 42 = .ok (.if_icmp .lt 42, 3) := dget zdX8_heavy_0 22 rfl
theorem dX8_heavy_45 : decode cX8_heavy 45 = .ok (.aload_n 0, 1) := dget zdX8_heavy_0 23 rfl
theorem dX8_heavy_46 : decode cX8_heavy 46 = .ok (.getfield 48, 3) := dget zdX8_heavy_0 24 rfl
theorem dX8_heavy_49 : decode cX8_heavy 49 = .ok (.aload_n 0, 1) := dget zdX8_heavy_0 25 rfl
theorem dX8_heavy_50 : decode cX8_heavy 50 = .ok (.getfield 19, 3) := dget zdX8_heavy_0 26 rfl
theorem dX8_heavy_53 : decode cX8_heavy 53 = .ok (.iload_n 1, 1) := dget zdX8_heavy_0 27 rfl
theorem dX8_heavy_54 : decode cX8_heavy 54 = .ok (.iload 6, 2) := dget zdX8_heavy_0 28 rfl
theorem dX8_heavy_56 : decode cX8_heavy 56 = .ok (.iconst 0, 1) := dget zdX8_heavy_0 29 rfl
theorem dX8_heavy_57 : decode cX8_heavy 57 = .ok (.invokevirtual 134, 3) := dget zdX8_heavy_0 30 rfl
theorem dX8_heavy_60 : decode cX8_heavy 60 = .ok (.aload_n 0, 1) := dget zdX8_heavy_0 31 rfl
theorem dX8_heavy_61 : decode cX8_heavy 61 = .ok (.getfield 48, 3) := dget zdX8_heavy_0 32 rfl
theorem dX8_heavy_64 : decode cX8_heavy 64 = .ok (.getfield 138, 3) := dget zdX8_heavy_0 33 rfl
theorem dX8_heavy_67 : decode cX8_heavy 67 = .ok (.iload_n 2, 1) := dget zdX8_heavy_0 34 rfl
theorem dX8_heavy_68 : decode cX8_heavy 68 = .ok (.if_icmp .ne 10, 3) := dget zdX8_heavy_0 35 rfl
theorem dX8_heavy_71 : decode cX8_heavy 71 = .ok (.iinc 4 1, 3) := dget zdX8_heavy_0 36 rfl
theorem dX8_heavy_74 : decode cX8_heavy 74 = .ok (.iload 6, 2) := dget zdX8_heavy_0 37 rfl
theorem dX8_heavy_76 : decode cX8_heavy 76 = .ok (.istore 5, 2) := dget zdX8_heavy_0 38 rfl
theorem dX8_heavy_78 : decode cX8_heavy 78 = .ok (.iinc 6 (-1), 3) := dget zdX8_heavy_0 39 rfl
theorem dX8_heavy_81 : decode cX8_heavy 81 = .ok (.goto (-42), 3) := dget zdX8_heavy_0 40 rfl
theorem dX8_heavy_84 : decode cX8_heavy 84 = .ok (.iload_n 3, 1) := dget zdX8_heavy_0 41 rfl
theorem dX8_heavy_85 : decode cX8_heavy 85 = .ok (.ifCond .ne 8, 3) := dget zdX8_heavy_0 42 rfl
theorem dX8_heavy_88 : decode cX8_heavy 88 = .ok (.iload 4, 2) := dget zdX8_heavy_0 43 rfl
theorem dX8_heavy_90 : decode cX8_heavy 90 = .ok (.goto 5, 3) := dget zdX8_heavy_0 44 rfl
theorem dX8_heavy_93 : decode cX8_heavy 93 = .ok (.iload 5, 2) := dget zdX8_heavy_0 45 rfl
theorem dX8_heavy_95 : decode cX8_heavy 95 = .ok (.ireturn, 1) := dget zdX8_heavy_0 46 rfl
theorem zdX8_likely_0 : dchk cX8_likely [(0, .aload_n 0, 1), (1, .iload_n 1, 1), (2, .iload_n 2, 1), (3, .iconst 0, 1), (4, .invokevirtual 130, 3), (7, .ifCond .eq 23, 3), (10, .aload_n 0, 1), (11, .iload_n 3, 1), (12, .invokevirtual 215, 3), (15, .ifCond .eq 15, 3), (18, .iload 5, 2), (20, .invokestatic 117, 3), (23, .ifCond .eq 7, 3), (26, .iconst 1, 1), (27, .goto 4, 3), (30, .iconst 0, 1), (31, .istore 6, 2), (33, .iload 6, 2), (35, .ifCond .eq 15, 3), (38, .iload 4, 2), (40, .ifCond .lt 10, 3), (43, .iload 4, 2), (45, .bipush 10, 2), (47, .if_icmp .le 5, 3), (50, .iconst (-1), 1), (51, .ireturn, 1), (52, .aload_n 0, 1), (53, .getfield 69, 3), (56, .aload_n 0, 1), (57, .getfield 19, 3), (60, .iload_n 1, 1), (61, .iload_n 2, 1), (62, .iload_n 3, 1), (63, .iload 4, 2), (65, .invokevirtual 229, 3), (68, .iload 5, 2), (70, .ifCond .ne 13, 3), (73, .aload_n 0, 1), (74, .getfield 69, 3), (77, .getfield 233, 3), (80, .goto 10, 3), (83, .aload_n 0, 1), (84, .getfield 69, 3), (87, .getfield 236, 3), (90, .ireturn, 1)] = true := by decide +kernel
theorem dX8_likely_0 : decode cX8_likely 0 = .ok (.aload_n 0, 1) := dget zdX8_likely_0 0 rfl
theorem dX8_likely_1 : decode cX8_likely 1 = .ok (.iload_n 1, 1) := dget zdX8_likely_0 1 rfl
theorem dX8_likely_2 : decode cX8_likely 2 = .ok (.iload_n 2, 1) := dget zdX8_likely_0 2 rfl
theorem dX8_likely_3 : decode cX8_likely 3 = .ok (.iconst 0, 1) := dget zdX8_likely_0 3 rfl
theorem dX8_likely_4 : decode cX8_likely 4 = .ok (.invokevirtual 130, 3) := dget zdX8_likely_0 4 rfl
theorem dX8_likely_7 : decode cX8_likely 7 = .ok (.ifCond .eq 23, 3) := dget zdX8_likely_0 5 rfl
theorem dX8_likely_10 : decode cX8_likely 10 = .ok (.aload_n 0, 1) := dget zdX8_likely_0 6 rfl
theorem dX8_likely_11 : decode cX8_likely 11 = .ok (.iload_n 3, 1) := dget zdX8_likely_0 7 rfl
theorem dX8_likely_12 : decode cX8_likely 12 = .ok (.invokevirtual 215, 3) := dget zdX8_likely_0 8 rfl
theorem dX8_likely_15 : decode cX8_likely 15 = .ok (.ifCond .eq 15, 3) := dget zdX8_likely_0 9 rfl
theorem dX8_likely_18 : decode cX8_likely 18 = .ok (.iload 5, 2) := dget zdX8_likely_0 10 rfl
theorem dX8_likely_20 : decode cX8_likely 20 = .ok (.invokestatic 117, 3) := dget zdX8_likely_0 11 rfl
theorem dX8_likely_23 : decode cX8_likely 23 = .ok (.ifCond .eq 7, 3) := dget zdX8_likely_0 12 rfl
theorem dX8_likely_26 : decode cX8_likely 26 = .ok (.iconst 1, 1) := dget zdX8_likely_0 13 rfl
theorem dX8_likely_27 : decode cX8_likely 27 = .ok (.goto 4, 3) := dget zdX8_likely_0 14 rfl
theorem dX8_likely_30 : decode cX8_likely 30 = .ok (.iconst 0, 1) := dget zdX8_likely_0 15 rfl
theorem dX8_likely_31 : decode cX8_likely 31 = .ok (.istore 6, 2) := dget zdX8_likely_0 16 rfl
theorem dX8_likely_33 : decode cX8_likely 33 = .ok (.iload 6, 2) := dget zdX8_likely_0 17 rfl
theorem dX8_likely_35 : decode cX8_likely 35 = .ok (.ifCond .eq 15, 3) := dget zdX8_likely_0 18 rfl
theorem dX8_likely_38 : decode cX8_likely 38 = .ok (.iload 4, 2) := dget zdX8_likely_0 19 rfl
theorem dX8_likely_40 : decode cX8_likely 40 = .ok (.ifCond .lt 10, 3) := dget zdX8_likely_0 20 rfl
theorem dX8_likely_43 : decode cX8_likely 43 = .ok (.iload 4, 2) := dget zdX8_likely_0 21 rfl
theorem dX8_likely_45 : decode cX8_likely 45 = .ok (.bipush 10, 2) := dget zdX8_likely_0 22 rfl
theorem dX8_likely_47 : decode cX8_likely 47 = .ok (.if_icmp .le 5, 3) := dget zdX8_likely_0 23 rfl
theorem dX8_likely_50 : decode cX8_likely 50 = .ok (.iconst (-1), 1) := dget zdX8_likely_0 24 rfl
theorem dX8_likely_51 : decode cX8_likely 51 = .ok (.ireturn, 1) := dget zdX8_likely_0 25 rfl
theorem dX8_likely_52 : decode cX8_likely 52 = .ok (.aload_n 0, 1) := dget zdX8_likely_0 26 rfl
theorem dX8_likely_53 : decode cX8_likely 53 = .ok (.getfield 69, 3) := dget zdX8_likely_0 27 rfl
theorem dX8_likely_56 : decode cX8_likely 56 = .ok (.aload_n 0, 1) := dget zdX8_likely_0 28 rfl
theorem dX8_likely_57 : decode cX8_likely 57 = .ok (.getfield 19, 3) := dget zdX8_likely_0 29 rfl
theorem dX8_likely_60 : decode cX8_likely 60 = .ok (.iload_n 1, 1) := dget zdX8_likely_0 30 rfl
theorem dX8_likely_61 : decode cX8_likely 61 = .ok (.iload_n 2, 1) := dget zdX8_likely_0 31 rfl
theorem dX8_likely_62 : decode cX8_likely 62 = .ok (.iload_n 3, 1) := dget zdX8_likely_0 32 rfl
theorem dX8_likely_63 : decode cX8_likely 63 = .ok (.iload 4, 2) := dget zdX8_likely_0 33 rfl
theorem dX8_likely_65 : decode cX8_likely 65 = .ok (.invokevirtual 229, 3) := dget zdX8_likely_0 34 rfl
theorem dX8_likely_68 : decode cX8_likely 68 = .ok (.iload 5, 2) := dget zdX8_likely_0 35 rfl
theorem dX8_likely_70 : decode cX8_likely 70 = .ok (.ifCond .ne 13, 3) := dget zdX8_likely_0 36 rfl
theorem dX8_likely_73 : decode cX8_likely 73 = .ok (.aload_n 0, 1) := dget zdX8_likely_0 37 rfl
theorem dX8_likely_74 : decode cX8_likely 74 = .ok (.getfield 69, 3) := dget zdX8_likely_0 38 rfl
theorem dX8_likely_77 : decode cX8_likely 77 = .ok (.getfield 233, 3) := dget zdX8_likely_0 39 rfl
theorem dX8_likely_80 : decode cX8_likely 80 = .ok (.goto 10, 3) := dget zdX8_likely_0 40 rfl
theorem dX8_likely_83 : decode cX8_likely 83 = .ok (.aload_n 0, 1) := dget zdX8_likely_0 41 rfl
theorem dX8_likely_84 : decode cX8_likely 84 = .ok (.getfield 69, 3) := dget zdX8_likely_0 42 rfl
theorem dX8_likely_87 : decode cX8_likely 87 = .ok (.getfield 236, 3) := dget zdX8_likely_0 43 rfl
theorem dX8_likely_90 : decode cX8_likely 90 = .ok (.ireturn, 1) := dget zdX8_likely_0 44 rfl
theorem zdX8_winter_0 : dchk cX8_winter [(0, .iload_n 1, 1), (1, .ifCond .lt 21, 3), (4, .iload_n 1, 1), (5, .sipush 9999, 3), (8, .if_icmp .gt 14, 3), (11, .iload_n 2, 1), (12, .iconst 1, 1), (13, .if_icmp .lt 9, 3), (16, .iload_n 2, 1), (17, .bipush 60, 2), (19, .if_icmp .le 5, 3), (22, .iconst (-1), 1), (23, .ireturn, 1), (24, .iload_n 3, 1), (25, .ifCond .lt 8, 3), (28, .iload_n 3, 1), (29, .iconst 2, 1), (30, .if_icmp .le 5, 3), (33, .iconst (-1), 1), (34, .ireturn, 1), (35, .aload_n 0, 1), (36, .getfield 23, 3), (39, .aload_n 0, 1), (40, .getfield 19, 3), (43, .invokevirtual 93, 3), (46, .iconst 0, 1), (47, .istore 4, 2), (49, .iconst 0, 1), (50, .istore 5, 2), (52, .iload 5, 2), (54, .iload_n 2, 1), (55, .if_icmp .ge 25, 3), (58, .aload_n 0, 1), (59, .iload_n 1, 1), (60, .iload 5, 2), (62, .invokestatic 239, 3), (65, .invokevirtual 243, 3), (68, .ifCond .eq 6, 3), (71, .iinc 4 1, 3), (74, .iinc 5 1, 3), (77, .goto (-25), 3), (80, .iload_n 3, 1), (81, .lookupswitch 44 #[(0, 27), (1, 35)], 27), (108, .aload_n 0, 1), (109, .getfield 23, 3), (112, .invokevirtual 246, 3), (115, .ireturn, 1), (116, .aload_n 0, 1), (117, .getfield 23, 3), (120, .iconst 1, 1), (121, .invokevirtual 249, 3), (124, .ireturn, 1), (125, .iload 4, 2), (127, .ireturn, 1)] = true := by decide +kernel
theorem dX8_winter_0 : decode cX8_winter 0 = .ok (.iload_n 1, 1) := dget zdX8_winter_0 0 rfl
theorem dX8_winter_1 : decode cX8_winter 1 = .ok (.ifCond .lt 21, 3) := dget zdX8_winter_0 1 rfl
theorem dX8_winter_4 : decode cX8_winter 4 = .ok (.iload_n 1, 1) := dget zdX8_winter_0 2 rfl
theorem dX8_winter_5 : decode cX8_winter 5 = .ok (.sipush 9999, 3) := dget zdX8_winter_0 3 rfl
theorem dX8_winter_8 : decode cX8_winter 8 = .ok (.if_icmp .gt 14, 3) := dget zdX8_winter_0 4 rfl
theorem dX8_winter_11 : decode cX8_winter 11 = .ok (.iload_n 2, 1) := dget zdX8_winter_0 5 rfl
theorem dX8_winter_12 : decode cX8_winter 12 = .ok (.iconst 1, 1) := dget zdX8_winter_0 6 rfl
theorem dX8_winter_13 : decode cX8_winter 13 = .ok (.if_icmp .lt 9, 3) := dget zdX8_winter_0 7 rfl
theorem dX8_winter_16 : decode cX8_winter 16 = .ok (.iload_n 2, 1) := dget zdX8_winter_0 8 rfl
theorem dX8_winter_17 : decode cX8_winter 17 = .ok (.bipush 60, 2) := dget zdX8_winter_0 9 rfl
theorem dX8_winter_19 : decode cX8_winter 19 = .ok (.if_icmp .le 5, 3) := dget zdX8_winter_0 10 rfl
theorem dX8_winter_22 : decode cX8_winter 22 = .ok (.iconst (-1), 1) := dget zdX8_winter_0 11 rfl
theorem dX8_winter_23 : decode cX8_winter 23 = .ok (.ireturn, 1) := dget zdX8_winter_0 12 rfl
theorem dX8_winter_24 : decode cX8_winter 24 = .ok (.iload_n 3, 1) := dget zdX8_winter_0 13 rfl
theorem dX8_winter_25 : decode cX8_winter 25 = .ok (.ifCond .lt 8, 3) := dget zdX8_winter_0 14 rfl
theorem dX8_winter_28 : decode cX8_winter 28 = .ok (.iload_n 3, 1) := dget zdX8_winter_0 15 rfl
theorem dX8_winter_29 : decode cX8_winter 29 = .ok (.iconst 2, 1) := dget zdX8_winter_0 16 rfl
theorem dX8_winter_30 : decode cX8_winter 30 = .ok (.if_icmp .le 5, 3) := dget zdX8_winter_0 17 rfl
theorem dX8_winter_33 : decode cX8_winter 33 = .ok (.iconst (-1), 1) := dget zdX8_winter_0 18 rfl
theorem dX8_winter_34 : decode cX8_winter 34 = .ok (.ireturn, 1) := dget zdX8_winter_0 19 rfl
theorem dX8_winter_35 : decode cX8_winter 35 = .ok (.aload_n 0, 1) := dget zdX8_winter_0 20 rfl
theorem dX8_winter_36 : decode cX8_winter 36 = .ok (.getfield 23, 3) := dget zdX8_winter_0 21 rfl
theorem dX8_winter_39 : decode cX8_winter 39 = .ok (.aload_n 0, 1) := dget zdX8_winter_0 22 rfl
theorem dX8_winter_40 : decode cX8_winter 40 = .ok (.getfield 19, 3) := dget zdX8_winter_0 23 rfl
theorem dX8_winter_43 : decode cX8_winter 43 = .ok (.invokevirtual 93, 3) := dget zdX8_winter_0 24 rfl
theorem dX8_winter_46 : decode cX8_winter 46 = .ok (.iconst 0, 1) := dget zdX8_winter_0 25 rfl
theorem dX8_winter_47 : decode cX8_winter 47 = .ok (.istore 4, 2) := dget zdX8_winter_0 26 rfl
theorem dX8_winter_49 : decode cX8_winter 49 = .ok (.iconst 0, 1) := dget zdX8_winter_0 27 rfl
theorem dX8_winter_50 : decode cX8_winter 50 = .ok (.istore 5, 2) := dget zdX8_winter_0 28 rfl
theorem dX8_winter_52 : decode cX8_winter 52 = .ok (.iload 5, 2) := dget zdX8_winter_0 29 rfl
theorem dX8_winter_54 : decode cX8_winter 54 = .ok (.iload_n 2, 1) := dget zdX8_winter_0 30 rfl
theorem dX8_winter_55 : decode cX8_winter 55 = .ok (.if_icmp .ge 25, 3) := dget zdX8_winter_0 31 rfl
theorem dX8_winter_58 : decode cX8_winter 58 = .ok (.aload_n 0, 1) := dget zdX8_winter_0 32 rfl
theorem dX8_winter_59 : decode cX8_winter 59 = .ok (.iload_n 1, 1) := dget zdX8_winter_0 33 rfl
theorem dX8_winter_60 : decode cX8_winter 60 = .ok (.iload 5, 2) := dget zdX8_winter_0 34 rfl
theorem dX8_winter_62 : decode cX8_winter 62 = .ok (.invokestatic 239, 3) := dget zdX8_winter_0 35 rfl
theorem dX8_winter_65 : decode cX8_winter 65 = .ok (.invokevirtual 243, 3) := dget zdX8_winter_0 36 rfl
theorem dX8_winter_68 : decode cX8_winter 68 = .ok (.ifCond .eq 6, 3) := dget zdX8_winter_0 37 rfl
theorem dX8_winter_71 : decode cX8_winter 71 = .ok (.iinc 4 1, 3) := dget zdX8_winter_0 38 rfl
theorem dX8_winter_74 : decode cX8_winter 74 = .ok (.iinc 5 1, 3) := dget zdX8_winter_0 39 rfl
theorem dX8_winter_77 : decode cX8_winter 77 = .ok (.goto (-25), 3) := dget zdX8_winter_0 40 rfl
theorem dX8_winter_80 : decode cX8_winter 80 = .ok (.iload_n 3, 1) := dget zdX8_winter_0 41 rfl
theorem dX8_winter_81 : decode cX8_winter 81 = .ok (.lookupswitch 44 #[(0, 27), (1, 35)], 27) := dget zdX8_winter_0 42 rfl
theorem dX8_winter_108 : decode cX8_winter 108 = .ok (.aload_n 0, 1) := dget zdX8_winter_0 43 rfl
theorem dX8_winter_109 : decode cX8_winter 109 = .ok (.getfield 23, 3) := dget zdX8_winter_0 44 rfl
theorem dX8_winter_112 : decode cX8_winter 112 = .ok (.invokevirtual 246, 3) := dget zdX8_winter_0 45 rfl
theorem dX8_winter_115 : decode cX8_winter 115 = .ok (.ireturn, 1) := dget zdX8_winter_0 46 rfl
theorem dX8_winter_116 : decode cX8_winter 116 = .ok (.aload_n 0, 1) := dget zdX8_winter_0 47 rfl
theorem dX8_winter_117 : decode cX8_winter 117 = .ok (.getfield 23, 3) := dget zdX8_winter_0 48 rfl
theorem dX8_winter_120 : decode cX8_winter 120 = .ok (.iconst 1, 1) := dget zdX8_winter_0 49 rfl
theorem dX8_winter_121 : decode cX8_winter 121 = .ok (.invokevirtual 249, 3) := dget zdX8_winter_0 50 rfl
theorem dX8_winter_124 : decode cX8_winter 124 = .ok (.ireturn, 1) := dget zdX8_winter_0 51 rfl
theorem dX8_winter_125 : decode cX8_winter 125 = .ok (.iload 4, 2) := dget zdX8_winter_0 52 rfl
theorem dX8_winter_127 : decode cX8_winter 127 = .ok (.ireturn, 1) := dget zdX8_winter_0 53 rfl
theorem zdX8_keep_0 : dchk cX8_keep [(0, .aload_n 0, 1), (1, .getfield 35, 3), (4, .getfield 186, 3), (7, .iconst 2, 1), (8, .if_icmp .lt 6, 3), (11, .bipush (-3), 2), (13, .ireturn, 1), (14, .aload_n 0, 1), (15, .getfield 35, 3), (18, .aload_n 0, 1), (19, .getfield 19, 3), (22, .invokevirtual 159, 3), (25, .aload_n 0, 1), (26, .getfield 35, 3), (29, .getfield 186, 3), (32, .ireturn, 1)] = true := by decide +kernel
theorem dX8_keep_0 : decode cX8_keep 0 = .ok (.aload_n 0, 1) := dget zdX8_keep_0 0 rfl
theorem dX8_keep_1 : decode cX8_keep 1 = .ok (.getfield 35, 3) := dget zdX8_keep_0 1 rfl
theorem dX8_keep_4 : decode cX8_keep 4 = .ok (.getfield 186, 3) := dget zdX8_keep_0 2 rfl
theorem dX8_keep_7 : decode cX8_keep 7 = .ok (.iconst 2, 1) := dget zdX8_keep_0 3 rfl
theorem dX8_keep_8 : decode cX8_keep 8 = .ok (.if_icmp .lt 6, 3) := dget zdX8_keep_0 4 rfl
theorem dX8_keep_11 : decode cX8_keep 11 = .ok (.bipush (-3), 2) := dget zdX8_keep_0 5 rfl
theorem dX8_keep_13 : decode cX8_keep 13 = .ok (.ireturn, 1) := dget zdX8_keep_0 6 rfl
theorem dX8_keep_14 : decode cX8_keep 14 = .ok (.aload_n 0, 1) := dget zdX8_keep_0 7 rfl
theorem dX8_keep_15 : decode cX8_keep 15 = .ok (.getfield 35, 3) := dget zdX8_keep_0 8 rfl
theorem dX8_keep_18 : decode cX8_keep 18 = .ok (.aload_n 0, 1) := dget zdX8_keep_0 9 rfl
theorem dX8_keep_19 : decode cX8_keep 19 = .ok (.getfield 19, 3) := dget zdX8_keep_0 10 rfl
theorem dX8_keep_22 : decode cX8_keep 22 = .ok (.invokevirtual 159, 3) := dget zdX8_keep_0 11 rfl
theorem dX8_keep_25 : decode cX8_keep 25 = .ok (.aload_n 0, 1) := dget zdX8_keep_0 12 rfl
theorem dX8_keep_26 : decode cX8_keep 26 = .ok (.getfield 35, 3) := dget zdX8_keep_0 13 rfl
theorem dX8_keep_29 : decode cX8_keep 29 = .ok (.getfield 186, 3) := dget zdX8_keep_0 14 rfl
theorem dX8_keep_32 : decode cX8_keep 32 = .ok (.ireturn, 1) := dget zdX8_keep_0 15 rfl
theorem zdX8_back_0 : dchk cX8_back [(0, .aload_n 0, 1), (1, .getfield 35, 3), (4, .aload_n 0, 1), (5, .getfield 19, 3), (8, .invokevirtual 182, 3), (11, .ifCond .ne 6, 3), (14, .bipush (-2), 2), (16, .ireturn, 1), (17, .aload_n 0, 1), (18, .getfield 31, 3), (21, .invokevirtual 110, 3), (24, .aload_n 0, 1), (25, .getfield 35, 3), (28, .getfield 186, 3), (31, .ireturn, 1)] = true := by decide +kernel
theorem dX8_back_0 : decode cX8_back 0 = .ok (.aload_n 0, 1) := dget zdX8_back_0 0 rfl
theorem dX8_back_1 : decode cX8_back 1 = .ok (.getfield 35, 3) := dget zdX8_back_0 1 rfl
theorem dX8_back_4 : decode cX8_back 4 = .ok (.aload_n 0, 1) := dget zdX8_back_0 2 rfl
theorem dX8_back_5 : decode cX8_back 5 = .ok (.getfield 19, 3) := dget zdX8_back_0 3 rfl
theorem dX8_back_8 : decode cX8_back 8 = .ok (.invokevirtual 182, 3) := dget zdX8_back_0 4 rfl
theorem dX8_back_11 : decode cX8_back 11 = .ok (.ifCond .ne 6, 3) := dget zdX8_back_0 5 rfl
theorem dX8_back_14 : decode cX8_back 14 = .ok (.bipush (-2), 2) := dget zdX8_back_0 6 rfl
theorem dX8_back_16 : decode cX8_back 16 = .ok (.ireturn, 1) := dget zdX8_back_0 7 rfl
theorem dX8_back_17 : decode cX8_back 17 = .ok (.aload_n 0, 1) := dget zdX8_back_0 8 rfl
theorem dX8_back_18 : decode cX8_back 18 = .ok (.getfield 31, 3) := dget zdX8_back_0 9 rfl
theorem dX8_back_21 : decode cX8_back 21 = .ok (.invokevirtual 110, 3) := dget zdX8_back_0 10 rfl
theorem dX8_back_24 : decode cX8_back 24 = .ok (.aload_n 0, 1) := dget zdX8_back_0 11 rfl
theorem dX8_back_25 : decode cX8_back 25 = .ok (.getfield 35, 3) := dget zdX8_back_0 12 rfl
theorem dX8_back_28 : decode cX8_back 28 = .ok (.getfield 186, 3) := dget zdX8_back_0 13 rfl
theorem dX8_back_31 : decode cX8_back 31 = .ok (.ireturn, 1) := dget zdX8_back_0 14 rfl
theorem zdX8_count_0 : dchk cX8_count [(0, .iload_n 1, 1), (1, .tableswitch 136 0 9 #[55, 63, 71, 79, 87, 96, 104, 112, 120, 128], 55), (56, .aload_n 0, 1), (57, .getfield 19, 3), (60, .invokevirtual 111, 3), (63, .ireturn, 1), (64, .aload_n 0, 1), (65, .getfield 19, 3), (68, .getfield 252, 3), (71, .ireturn, 1), (72, .aload_n 0, 1), (73, .getfield 19, 3), (76, .getfield 103, 3), (79, .ireturn, 1), (80, .aload_n 0, 1), (81, .getfield 19, 3), (84, .invokevirtual 246, 3), (87, .ireturn, 1), (88, .aload_n 0, 1), (89, .getfield 19, 3), (92, .iconst 1, 1), (93, .invokevirtual 249, 3), (96, .ireturn, 1), (97, .aload_n 0, 1), (98, .getfield 19, 3), (101, .getfield 106, 3), (104, .ireturn, 1), (105, .aload_n 0, 1), (106, .getfield 41, 3), (109, .getfield 221, 3), (112, .ireturn, 1), (113, .aload_n 0, 1), (114, .getfield 31, 3), (117, .getfield 186, 3), (120, .ireturn, 1), (121, .aload_n 0, 1), (122, .getfield 35, 3), (125, .getfield 186, 3), (128, .ireturn, 1), (129, .aload_n 0, 1), (130, .getfield 12, 3), (133, .getfield 100, 3), (136, .ireturn, 1), (137, .iconst (-1), 1), (138, .ireturn, 1)] = true := by decide +kernel
theorem dX8_count_0 : decode cX8_count 0 = .ok (.iload_n 1, 1) := dget zdX8_count_0 0 rfl
theorem dX8_count_1 : decode cX8_count 1 = .ok (.tableswitch 136 0 9 #[55, 63, 71, 79, 87, 96, 104, 112, 120, 128], 55) := dget zdX8_count_0 1 rfl
theorem dX8_count_56 : decode cX8_count 56 = .ok (.aload_n 0, 1) := dget zdX8_count_0 2 rfl
theorem dX8_count_57 : decode cX8_count 57 = .ok (.getfield 19, 3) := dget zdX8_count_0 3 rfl
theorem dX8_count_60 : decode cX8_count 60 = .ok (.invokevirtual 111, 3) := dget zdX8_count_0 4 rfl
theorem dX8_count_63 : decode cX8_count 63 = .ok (.ireturn, 1) := dget zdX8_count_0 5 rfl
theorem dX8_count_64 : decode cX8_count 64 = .ok (.aload_n 0, 1) := dget zdX8_count_0 6 rfl
theorem dX8_count_65 : decode cX8_count 65 = .ok (.getfield 19, 3) := dget zdX8_count_0 7 rfl
theorem dX8_count_68 : decode cX8_count 68 = .ok (.getfield 252, 3) := dget zdX8_count_0 8 rfl
theorem dX8_count_71 : decode cX8_count 71 = .ok (.ireturn, 1) := dget zdX8_count_0 9 rfl
theorem dX8_count_72 : decode cX8_count 72 = .ok (.aload_n 0, 1) := dget zdX8_count_0 10 rfl
theorem dX8_count_73 : decode cX8_count 73 = .ok (.getfield 19, 3) := dget zdX8_count_0 11 rfl
theorem dX8_count_76 : decode cX8_count 76 = .ok (.getfield 103, 3) := dget zdX8_count_0 12 rfl
theorem dX8_count_79 : decode cX8_count 79 = .ok (.ireturn, 1) := dget zdX8_count_0 13 rfl
theorem dX8_count_80 : decode cX8_count 80 = .ok (.aload_n 0, 1) := dget zdX8_count_0 14 rfl
theorem dX8_count_81 : decode cX8_count 81 = .ok (.getfield 19, 3) := dget zdX8_count_0 15 rfl
theorem dX8_count_84 : decode cX8_count 84 = .ok (.invokevirtual 246, 3) := dget zdX8_count_0 16 rfl
theorem dX8_count_87 : decode cX8_count 87 = .ok (.ireturn, 1) := dget zdX8_count_0 17 rfl
theorem dX8_count_88 : decode cX8_count 88 = .ok (.aload_n 0, 1) := dget zdX8_count_0 18 rfl
theorem dX8_count_89 : decode cX8_count 89 = .ok (.getfield 19, 3) := dget zdX8_count_0 19 rfl
theorem dX8_count_92 : decode cX8_count 92 = .ok (.iconst 1, 1) := dget zdX8_count_0 20 rfl
theorem dX8_count_93 : decode cX8_count 93 = .ok (.invokevirtual 249, 3) := dget zdX8_count_0 21 rfl
theorem dX8_count_96 : decode cX8_count 96 = .ok (.ireturn, 1) := dget zdX8_count_0 22 rfl
theorem dX8_count_97 : decode cX8_count 97 = .ok (.aload_n 0, 1) := dget zdX8_count_0 23 rfl
theorem dX8_count_98 : decode cX8_count 98 = .ok (.getfield 19, 3) := dget zdX8_count_0 24 rfl
theorem dX8_count_101 : decode cX8_count 101 = .ok (.getfield 106, 3) := dget zdX8_count_0 25 rfl
theorem dX8_count_104 : decode cX8_count 104 = .ok (.ireturn, 1) := dget zdX8_count_0 26 rfl
theorem dX8_count_105 : decode cX8_count 105 = .ok (.aload_n 0, 1) := dget zdX8_count_0 27 rfl
theorem dX8_count_106 : decode cX8_count 106 = .ok (.getfield 41, 3) := dget zdX8_count_0 28 rfl
theorem dX8_count_109 : decode cX8_count 109 = .ok (.getfield 221, 3) := dget zdX8_count_0 29 rfl
theorem dX8_count_112 : decode cX8_count 112 = .ok (.ireturn, 1) := dget zdX8_count_0 30 rfl
theorem dX8_count_113 : decode cX8_count 113 = .ok (.aload_n 0, 1) := dget zdX8_count_0 31 rfl
theorem dX8_count_114 : decode cX8_count 114 = .ok (.getfield 31, 3) := dget zdX8_count_0 32 rfl
theorem dX8_count_117 : decode cX8_count 117 = .ok (.getfield 186, 3) := dget zdX8_count_0 33 rfl
theorem dX8_count_120 : decode cX8_count 120 = .ok (.ireturn, 1) := dget zdX8_count_0 34 rfl
theorem dX8_count_121 : decode cX8_count 121 = .ok (.aload_n 0, 1) := dget zdX8_count_0 35 rfl
theorem dX8_count_122 : decode cX8_count 122 = .ok (.getfield 35, 3) := dget zdX8_count_0 36 rfl
theorem dX8_count_125 : decode cX8_count 125 = .ok (.getfield 186, 3) := dget zdX8_count_0 37 rfl
theorem dX8_count_128 : decode cX8_count 128 = .ok (.ireturn, 1) := dget zdX8_count_0 38 rfl
theorem dX8_count_129 : decode cX8_count 129 = .ok (.aload_n 0, 1) := dget zdX8_count_0 39 rfl
theorem dX8_count_130 : decode cX8_count 130 = .ok (.getfield 12, 3) := dget zdX8_count_0 40 rfl
theorem dX8_count_133 : decode cX8_count 133 = .ok (.getfield 100, 3) := dget zdX8_count_0 41 rfl
theorem dX8_count_136 : decode cX8_count 136 = .ok (.ireturn, 1) := dget zdX8_count_0 42 rfl
theorem dX8_count_137 : decode cX8_count 137 = .ok (.iconst (-1), 1) := dget zdX8_count_0 43 rfl
theorem dX8_count_138 : decode cX8_count 138 = .ok (.ireturn, 1) := dget zdX8_count_0 44 rfl
theorem zdX8_isFlag_0 : dchk cX8_isFlag [(0, .iload_n 0, 1), (1, .ifCond .eq 8, 3), (4, .iload_n 0, 1), (5, .iconst 1, 1), (6, .if_icmp .ne 7, 3), (9, .iconst 1, 1), (10, .goto 4, 3), (13, .iconst 0, 1), (14, .ireturn, 1)] = true := by decide +kernel
theorem dX8_isFlag_0 : decode cX8_isFlag 0 = .ok (.iload_n 0, 1) := dget zdX8_isFlag_0 0 rfl
theorem dX8_isFlag_1 : decode cX8_isFlag 1 = .ok (.ifCond .eq 8, 3) := dget zdX8_isFlag_0 1 rfl
theorem dX8_isFlag_4 : decode cX8_isFlag 4 = .ok (.iload_n 0, 1) := dget zdX8_isFlag_0 2 rfl
theorem dX8_isFlag_5 : decode cX8_isFlag 5 = .ok (.iconst 1, 1) := dget zdX8_isFlag_0 3 rfl
theorem dX8_isFlag_6 : decode cX8_isFlag 6 = .ok (.if_icmp .ne 7, 3) := dget zdX8_isFlag_0 4 rfl
theorem dX8_isFlag_9 : decode cX8_isFlag 9 = .ok (.iconst 1, 1) := dget zdX8_isFlag_0 5 rfl
theorem dX8_isFlag_10 : decode cX8_isFlag 10 = .ok (.goto 4, 3) := dget zdX8_isFlag_0 6 rfl
theorem dX8_isFlag_13 : decode cX8_isFlag 13 = .ok (.iconst 0, 1) := dget zdX8_isFlag_0 7 rfl
theorem dX8_isFlag_14 : decode cX8_isFlag 14 = .ok (.ireturn, 1) := dget zdX8_isFlag_0 8 rfl
theorem zdX8_isSide_0 : dchk cX8_isSide [(0, .iload_n 0, 1), (1, .ifCond .lt 12, 3), (4, .iload_n 0, 1), (5, .iconst 4, 1), (6, .if_icmp .ge 7, 3), (9, .iconst 1, 1), (10, .goto 4, 3), (13, .iconst 0, 1), (14, .ireturn, 1)] = true := by decide +kernel
theorem dX8_isSide_0 : decode cX8_isSide 0 = .ok (.iload_n 0, 1) := dget zdX8_isSide_0 0 rfl
theorem dX8_isSide_1 : decode cX8_isSide 1 = .ok (.ifCond .lt 12, 3) := dget zdX8_isSide_0 1 rfl
theorem dX8_isSide_4 : decode cX8_isSide 4 = .ok (.iload_n 0, 1) := dget zdX8_isSide_0 2 rfl
theorem dX8_isSide_5 : decode cX8_isSide 5 = .ok (.iconst 4, 1) := dget zdX8_isSide_0 3 rfl
theorem dX8_isSide_6 : decode cX8_isSide 6 = .ok (.if_icmp .ge 7, 3) := dget zdX8_isSide_0 4 rfl
theorem dX8_isSide_9 : decode cX8_isSide 9 = .ok (.iconst 1, 1) := dget zdX8_isSide_0 5 rfl
theorem dX8_isSide_10 : decode cX8_isSide 10 = .ok (.goto 4, 3) := dget zdX8_isSide_0 6 rfl
theorem dX8_isSide_13 : decode cX8_isSide 13 = .ok (.iconst 0, 1) := dget zdX8_isSide_0 7 rfl
theorem dX8_isSide_14 : decode cX8_isSide 14 = .ok (.ireturn, 1) := dget zdX8_isSide_0 8 rfl
theorem zdX8_isThing_0 : dchk cX8_isThing [(0, .iload_n 0, 1), (1, .ifCond .lt 12, 3), (4, .iload_n 0, 1), (5, .iconst 4, 1), (6, .if_icmp .ge 7, 3), (9, .iconst 1, 1), (10, .goto 4, 3), (13, .iconst 0, 1), (14, .ireturn, 1)] = true := by decide +kernel
theorem dX8_isThing_0 : decode cX8_isThing 0 = .ok (.iload_n 0, 1) := dget zdX8_isThing_0 0 rfl
theorem dX8_isThing_1 : decode cX8_isThing 1 = .ok (.ifCond .lt 12, 3) := dget zdX8_isThing_0 1 rfl
theorem dX8_isThing_4 : decode cX8_isThing 4 = .ok (.iload_n 0, 1) := dget zdX8_isThing_0 2 rfl
theorem dX8_isThing_5 : decode cX8_isThing 5 = .ok (.iconst 4, 1) := dget zdX8_isThing_0 3 rfl
theorem dX8_isThing_6 : decode cX8_isThing 6 = .ok (.if_icmp .ge 7, 3) := dget zdX8_isThing_0 4 rfl
theorem dX8_isThing_9 : decode cX8_isThing 9 = .ok (.iconst 1, 1) := dget zdX8_isThing_0 5 rfl
theorem dX8_isThing_10 : decode cX8_isThing 10 = .ok (.goto 4, 3) := dget zdX8_isThing_0 6 rfl
theorem dX8_isThing_13 : decode cX8_isThing 13 = .ok (.iconst 0, 1) := dget zdX8_isThing_0 7 rfl
theorem dX8_isThing_14 : decode cX8_isThing 14 = .ok (.ireturn, 1) := dget zdX8_isThing_0 8 rfl
theorem zdX8_isHeels_0 : dchk cX8_isHeels [(0, .iload_n 0, 1), (1, .ifCond .lt 9, 3), (4, .iload_n 0, 1), (5, .bipush 8, 2), (7, .if_icmp .le 15, 3), (10, .iload_n 0, 1), (11, .bipush 10, 2), (13, .if_icmp .le 13, 3), (16, .iload_n 0, 1), (17, .bipush 18, 2), (19, .if_icmp .gt 7, 3), (22, .iconst 1, 1), (23, .goto 4, 3), (26, .iconst 0, 1), (27, .ireturn, 1)] = true := by decide +kernel
theorem dX8_isHeels_0 : decode cX8_isHeels 0 = .ok (.iload_n 0, 1) := dget zdX8_isHeels_0 0 rfl
theorem dX8_isHeels_1 : decode cX8_isHeels 1 = .ok (.ifCond .lt 9, 3) := dget zdX8_isHeels_0 1 rfl
theorem dX8_isHeels_4 : decode cX8_isHeels 4 = .ok (.iload_n 0, 1) := dget zdX8_isHeels_0 2 rfl
theorem dX8_isHeels_5 : decode cX8_isHeels 5 = .ok (.bipush 8, 2) := dget zdX8_isHeels_0 3 rfl
theorem dX8_isHeels_7 : decode cX8_isHeels 7 = .ok (.if_icmp .le 15, 3) := dget zdX8_isHeels_0 4 rfl
theorem dX8_isHeels_10 : decode cX8_isHeels 10 = .ok (.iload_n 0, 1) := dget zdX8_isHeels_0 5 rfl
theorem dX8_isHeels_11 : decode cX8_isHeels 11 = .ok (.bipush 10, 2) := dget zdX8_isHeels_0 6 rfl
theorem dX8_isHeels_13 : decode cX8_isHeels 13 = .ok (.if_icmp .le 13, 3) := dget zdX8_isHeels_0 7 rfl
theorem dX8_isHeels_16 : decode cX8_isHeels 16 = .ok (.iload_n 0, 1) := dget zdX8_isHeels_0 8 rfl
theorem dX8_isHeels_17 : decode cX8_isHeels 17 = .ok (.bipush 18, 2) := dget zdX8_isHeels_0 9 rfl
theorem dX8_isHeels_19 : decode cX8_isHeels 19 = .ok (.if_icmp .gt 7, 3) := dget zdX8_isHeels_0 10 rfl
theorem dX8_isHeels_22 : decode cX8_isHeels 22 = .ok (.iconst 1, 1) := dget zdX8_isHeels_0 11 rfl
theorem dX8_isHeels_23 : decode cX8_isHeels 23 = .ok (.goto 4, 3) := dget zdX8_isHeels_0 12 rfl
theorem dX8_isHeels_26 : decode cX8_isHeels 26 = .ok (.iconst 0, 1) := dget zdX8_isHeels_0 13 rfl
theorem dX8_isHeels_27 : decode cX8_isHeels 27 = .ok (.ireturn, 1) := dget zdX8_isHeels_0 14 rfl
theorem zdX8_isRide_0 : dchk cX8_isRide [(0, .aload_n 0, 1), (1, .getfield 19, 3), (4, .iload_n 1, 1), (5, .invokevirtual 226, 3), (8, .ifCond .eq 25, 3), (11, .iload_n 2, 1), (12, .iconst 1, 1), (13, .if_icmp .lt 20, 3), (16, .iload_n 2, 1), (17, .bipush 20, 2), (19, .if_icmp .gt 14, 3), (22, .iload_n 3, 1), (23, .invokestatic 255, 3), (26, .ifCond .eq 7, 3), (29, .iconst 1, 1), (30, .goto 4, 3), (33, .iconst 0, 1), (34, .ireturn, 1)] = true := by decide +kernel
theorem dX8_isRide_0 : decode cX8_isRide 0 = .ok (.aload_n 0, 1) := dget zdX8_isRide_0 0 rfl
theorem dX8_isRide_1 : decode cX8_isRide 1 = .ok (.getfield 19, 3) := dget zdX8_isRide_0 1 rfl
theorem dX8_isRide_4 : decode cX8_isRide 4 = .ok (.iload_n 1, 1) := dget zdX8_isRide_0 2 rfl
theorem dX8_isRide_5 : decode cX8_isRide 5 = .ok (.invokevirtual 226, 3) := dget zdX8_isRide_0 3 rfl
theorem dX8_isRide_8 : decode cX8_isRide 8 = .ok (.ifCond .eq 25, 3) := dget zdX8_isRide_0 4 rfl
theorem dX8_isRide_11 : decode cX8_isRide 11 = .ok (.iload_n 2, 1) := dget zdX8_isRide_0 5 rfl
theorem dX8_isRide_12 : decode cX8_isRide 12 = .ok (.iconst 1, 1) := dget zdX8_isRide_0 6 rfl
theorem dX8_isRide_13 : decode cX8_isRide 13 = .ok (.if_icmp .lt 20, 3) := dget zdX8_isRide_0 7 rfl
theorem dX8_isRide_16 : decode cX8_isRide 16 = .ok (.iload_n 2, 1) := dget zdX8_isRide_0 8 rfl
theorem dX8_isRide_17 : decode cX8_isRide 17 = .ok (.bipush 20, 2) := dget zdX8_isRide_0 9 rfl
theorem dX8_isRide_19 : decode cX8_isRide 19 = .ok (.if_icmp .gt 14, 3) := dget zdX8_isRide_0 10 rfl
theorem dX8_isRide_22 : decode cX8_isRide 22 = .ok (.iload_n 3, 1) := dget zdX8_isRide_0 11 rfl
theorem dX8_isRide_23 : decode cX8_isRide 23 = .ok (.invokestatic 255, 3) := dget zdX8_isRide_0 12 rfl
theorem dX8_isRide_26 : decode cX8_isRide 26 = .ok (.ifCond .eq 7, 3) := dget zdX8_isRide_0 13 rfl
theorem dX8_isRide_29 : decode cX8_isRide 29 = .ok (.iconst 1, 1) := dget zdX8_isRide_0 14 rfl
theorem dX8_isRide_30 : decode cX8_isRide 30 = .ok (.goto 4, 3) := dget zdX8_isRide_0 15 rfl
theorem dX8_isRide_33 : decode cX8_isRide 33 = .ok (.iconst 0, 1) := dget zdX8_isRide_0 16 rfl
theorem dX8_isRide_34 : decode cX8_isRide 34 = .ok (.ireturn, 1) := dget zdX8_isRide_0 17 rfl
theorem zdX8_isEnd_0 : dchk cX8_isEnd [(0, .iload_n 1, 1), (1, .bipush 99, 2), (3, .if_icmp .eq 14, 3), (6, .aload_n 0, 1), (7, .getfield 19, 3), (10, .iload_n 1, 1), (11, .invokevirtual 114, 3), (14, .ifCond .eq 7, 3), (17, .iconst 1, 1), (18, .goto 4, 3), (21, .iconst 0, 1), (22, .ireturn, 1)] = true := by decide +kernel
theorem dX8_isEnd_0 : decode cX8_isEnd 0 = .ok (.iload_n 1, 1) := dget zdX8_isEnd_0 0 rfl
theorem dX8_isEnd_1 : decode cX8_isEnd 1 = .ok (.bipush 99, 2) := dget zdX8_isEnd_0 1 rfl
theorem dX8_isEnd_3 : decode cX8_isEnd 3 = .ok (.if_icmp .eq 14, 3) := dget zdX8_isEnd_0 2 rfl
theorem dX8_isEnd_6 : decode cX8_isEnd 6 = .ok (.aload_n 0, 1) := dget zdX8_isEnd_0 3 rfl
theorem dX8_isEnd_7 : decode cX8_isEnd 7 = .ok (.getfield 19, 3) := dget zdX8_isEnd_0 4 rfl
theorem dX8_isEnd_10 : decode cX8_isEnd 10 = .ok (.iload_n 1, 1) := dget zdX8_isEnd_0 5 rfl
theorem dX8_isEnd_11 : decode cX8_isEnd 11 = .ok (.invokevirtual 114, 3) := dget zdX8_isEnd_0 6 rfl
theorem dX8_isEnd_14 : decode cX8_isEnd 14 = .ok (.ifCond .eq 7, 3) := dget zdX8_isEnd_0 7 rfl
theorem dX8_isEnd_17 : decode cX8_isEnd 17 = .ok (.iconst 1, 1) := dget zdX8_isEnd_0 8 rfl
theorem dX8_isEnd_18 : decode cX8_isEnd 18 = .ok (.goto 4, 3) := dget zdX8_isEnd_0 9 rfl
theorem dX8_isEnd_21 : decode cX8_isEnd 21 = .ok (.iconst 0, 1) := dget zdX8_isEnd_0 10 rfl
theorem dX8_isEnd_22 : decode cX8_isEnd 22 = .ok (.ireturn, 1) := dget zdX8_isEnd_0 11 rfl
theorem zdX8_sideOrNone_0 : dchk cX8_sideOrNone [(0, .iload_n 0, 1), (1, .iconst 4, 1), (2, .if_icmp .ne 8, 3), (5, .bipush (-4), 2), (7, .goto 4, 3), (10, .iload_n 0, 1), (11, .ireturn, 1)] = true := by decide +kernel
theorem dX8_sideOrNone_0 : decode cX8_sideOrNone 0 = .ok (.iload_n 0, 1) := dget zdX8_sideOrNone_0 0 rfl
theorem dX8_sideOrNone_1 : decode cX8_sideOrNone 1 = .ok (.iconst 4, 1) := dget zdX8_sideOrNone_0 1 rfl
theorem dX8_sideOrNone_2 : decode cX8_sideOrNone 2 = .ok (.if_icmp .ne 8, 3) := dget zdX8_sideOrNone_0 2 rfl
theorem dX8_sideOrNone_5 : decode cX8_sideOrNone 5 = .ok (.bipush (-4), 2) := dget zdX8_sideOrNone_0 3 rfl
theorem dX8_sideOrNone_7 : decode cX8_sideOrNone 7 = .ok (.goto 4, 3) := dget zdX8_sideOrNone_0 4 rfl
theorem dX8_sideOrNone_10 : decode cX8_sideOrNone 10 = .ok (.iload_n 0, 1) := dget zdX8_sideOrNone_0 5 rfl
theorem dX8_sideOrNone_11 : decode cX8_sideOrNone 11 = .ok (.ireturn, 1) := dget zdX8_sideOrNone_0 6 rfl
theorem zdX8_firstCureIn_0 : dchk cX8_firstCureIn [(0, .aload_n 0, 1), (1, .getfield 19, 3), (4, .iload_n 1, 1), (5, .invokevirtual 120, 3), (8, .istore 6, 2), (10, .bipush (-4), 2), (12, .istore 7, 2), (14, .iconst 0, 1), (15, .istore 8, 2), (17, .iload 8, 2), (19, .iconst 4, 1), (20, .if_icmp .ge 64, 3), (23, .iload 7, 2), (25, .bipush (-4), 2), (27, .if_icmp .ne 57, 3), (30, .iload 8, 2), (32, .iload 6, 2), (34, .if_icmp .eq 44, 3), (37, .aload_n 0, 1), (38, .getfield 19, 3), (41, .iload_n 1, 1), (42, .iload 8, 2), (44, .invokevirtual 169, 3), (47, .aload_n 0, 1), (48, .getfield 48, 3), (51, .aload_n 0, 1), (52, .getfield 19, 3), (55, .iload_n 2, 1), (56, .iload_n 3, 1), (57, .iload 4, 2), (59, .invokevirtual 134, 3), (62, .aload_n 0, 1), (63, .getfield 48, 3), (66, .getfield 138, 3), (69, .iload 5, 2), (71, .if_icmp .ne 7, 3), (74, .iload 8, 2), (76, .istore 7, 2), (78, .iinc 8 1, 3), (81, .goto (-64), 3), (84, .aload_n 0, 1), (85, .getfield 19, 3), (88, .iload_n 1, 1), (89, .iload 6, 2), (91, .invokevirtual 169, 3), (94, .iload 7, 2), (96, .ireturn, 1)] = true := by decide +kernel
theorem dX8_firstCureIn_0 : decode cX8_firstCureIn 0 = .ok (.aload_n 0, 1) := dget zdX8_firstCureIn_0 0 rfl
theorem dX8_firstCureIn_1 : decode cX8_firstCureIn 1 = .ok (.getfield 19, 3) := dget zdX8_firstCureIn_0 1 rfl
theorem dX8_firstCureIn_4 : decode cX8_firstCureIn 4 = .ok (.iload_n 1, 1) := dget zdX8_firstCureIn_0 2 rfl
theorem dX8_firstCureIn_5 : decode cX8_firstCureIn 5 = .ok (.invokevirtual 120, 3) := dget zdX8_firstCureIn_0 3 rfl
theorem dX8_firstCureIn_8 : decode cX8_firstCureIn 8 = .ok (.istore 6, 2) := dget zdX8_firstCureIn_0 4 rfl
theorem dX8_firstCureIn_10 : decode cX8_firstCureIn 10 = .ok (.bipush (-4), 2) := dget zdX8_firstCureIn_0 5 rfl
theorem dX8_firstCureIn_12 : decode cX8_firstCureIn 12 = .ok (.istore 7, 2) := dget zdX8_firstCureIn_0 6 rfl
theorem dX8_firstCureIn_14 : decode cX8_firstCureIn 14 = .ok (.iconst 0, 1) := dget zdX8_firstCureIn_0 7 rfl
theorem dX8_firstCureIn_15 : decode cX8_firstCureIn 15 = .ok (.istore 8, 2) := dget zdX8_firstCureIn_0 8 rfl
theorem dX8_firstCureIn_17 : decode cX8_firstCureIn 17 = .ok (.iload 8, 2) := dget zdX8_firstCureIn_0 9 rfl
theorem dX8_firstCureIn_19 : decode cX8_firstCureIn 19 = .ok (.iconst 4, 1) := dget zdX8_firstCureIn_0 10 rfl
theorem dX8_firstCureIn_20 : decode cX8_firstCureIn 20 = .ok (.if_icmp .ge 64, 3) := dget zdX8_firstCureIn_0 11 rfl
theorem dX8_firstCureIn_23 : decode cX8_firstCureIn 23 = .ok (.iload 7, 2) := dget zdX8_firstCureIn_0 12 rfl
theorem dX8_firstCureIn_25 : decode cX8_firstCureIn 25 = .ok (.bipush (-4), 2) := dget zdX8_firstCureIn_0 13 rfl
theorem dX8_firstCureIn_27 : decode cX8_firstCureIn 27 = .ok (.if_icmp .ne 57, 3) := dget zdX8_firstCureIn_0 14 rfl
theorem dX8_firstCureIn_30 : decode cX8_firstCureIn 30 = .ok (.iload 8, 2) := dget zdX8_firstCureIn_0 15 rfl
theorem dX8_firstCureIn_32 : decode cX8_firstCureIn 32 = .ok (.iload 6, 2) := dget zdX8_firstCureIn_0 16 rfl
theorem dX8_firstCureIn_34 : decode cX8_firstCureIn 34 = .ok (.if_icmp .eq 44, 3) := dget zdX8_firstCureIn_0 17 rfl
theorem dX8_firstCureIn_37 : decode cX8_firstCureIn 37 = .ok (.aload_n 0, 1) := dget zdX8_firstCureIn_0 18 rfl
theorem dX8_firstCureIn_38 : decode cX8_firstCureIn 38 = .ok (.getfield 19, 3) := dget zdX8_firstCureIn_0 19 rfl
theorem dX8_firstCureIn_41 : decode cX8_firstCureIn 41 = .ok (.iload_n 1, 1) := dget zdX8_firstCureIn_0 20 rfl
theorem dX8_firstCureIn_42 : decode cX8_firstCureIn 42 = .ok (.iload 8, 2) := dget zdX8_firstCureIn_0 21 rfl
theorem dX8_firstCureIn_44 : decode cX8_firstCureIn 44 = .ok (.invokevirtual 169, 3) := dget zdX8_firstCureIn_0 22 rfl
theorem dX8_firstCureIn_47 : decode cX8_firstCureIn 47 = .ok (.aload_n 0, 1) := dget zdX8_firstCureIn_0 23 rfl
theorem dX8_firstCureIn_48 : decode cX8_firstCureIn 48 = .ok (.getfield 48, 3) := dget zdX8_firstCureIn_0 24 rfl
theorem dX8_firstCureIn_51 : decode cX8_firstCureIn 51 = .ok (.aload_n 0, 1) := dget zdX8_firstCureIn_0 25 rfl
theorem dX8_firstCureIn_52 : decode cX8_firstCureIn 52 = .ok (.getfield 19, 3) := dget zdX8_firstCureIn_0 26 rfl
theorem dX8_firstCureIn_55 : decode cX8_firstCureIn 55 = .ok (.iload_n 2, 1) := dget zdX8_firstCureIn_0 27 rfl
theorem dX8_firstCureIn_56 : decode cX8_firstCureIn 56 = .ok (.iload_n 3, 1) := dget zdX8_firstCureIn_0 28 rfl
theorem dX8_firstCureIn_57 : decode cX8_firstCureIn 57 = .ok (.iload 4, 2) := dget zdX8_firstCureIn_0 29 rfl
theorem dX8_firstCureIn_59 : decode cX8_firstCureIn 59 = .ok (.invokevirtual 134, 3) := dget zdX8_firstCureIn_0 30 rfl
theorem dX8_firstCureIn_62 : decode cX8_firstCureIn 62 = .ok (.aload_n 0, 1) := dget zdX8_firstCureIn_0 31 rfl
theorem dX8_firstCureIn_63 : decode cX8_firstCureIn 63 = .ok (.getfield 48, 3) := dget zdX8_firstCureIn_0 32 rfl
theorem dX8_firstCureIn_66 : decode cX8_firstCureIn 66 = .ok (.getfield 138, 3) := dget zdX8_firstCureIn_0 33 rfl
theorem dX8_firstCureIn_69 : decode cX8_firstCureIn 69 = .ok (.iload 5, 2) := dget zdX8_firstCureIn_0 34 rfl
theorem dX8_firstCureIn_71 : decode cX8_firstCureIn 71 = .ok (.if_icmp .ne 7, 3) := dget zdX8_firstCureIn_0 35 rfl
theorem dX8_firstCureIn_74 : decode cX8_firstCureIn 74 = .ok (.iload 8, 2) := dget zdX8_firstCureIn_0 36 rfl
theorem dX8_firstCureIn_76 : decode cX8_firstCureIn 76 = .ok (.istore 7, 2) := dget zdX8_firstCureIn_0 37 rfl
theorem dX8_firstCureIn_78 : decode cX8_firstCureIn 78 = .ok (.iinc 8 1, 3) := dget zdX8_firstCureIn_0 38 rfl
theorem dX8_firstCureIn_81 : decode cX8_firstCureIn 81 = .ok (.goto (-64), 3) := dget zdX8_firstCureIn_0 39 rfl
theorem dX8_firstCureIn_84 : decode cX8_firstCureIn 84 = .ok (.aload_n 0, 1) := dget zdX8_firstCureIn_0 40 rfl
theorem dX8_firstCureIn_85 : decode cX8_firstCureIn 85 = .ok (.getfield 19, 3) := dget zdX8_firstCureIn_0 41 rfl
theorem dX8_firstCureIn_88 : decode cX8_firstCureIn 88 = .ok (.iload_n 1, 1) := dget zdX8_firstCureIn_0 42 rfl
theorem dX8_firstCureIn_89 : decode cX8_firstCureIn 89 = .ok (.iload 6, 2) := dget zdX8_firstCureIn_0 43 rfl
theorem dX8_firstCureIn_91 : decode cX8_firstCureIn 91 = .ok (.invokevirtual 169, 3) := dget zdX8_firstCureIn_0 44 rfl
theorem dX8_firstCureIn_94 : decode cX8_firstCureIn 94 = .ok (.iload 7, 2) := dget zdX8_firstCureIn_0 45 rfl
theorem dX8_firstCureIn_96 : decode cX8_firstCureIn 96 = .ok (.ireturn, 1) := dget zdX8_firstCureIn_0 46 rfl
theorem zdX8_drawOf_0 : dchk cX8_drawOf [(0, .ldc2_w 258, 3), (3, .iload_n 0, 1), (4, .i2l, 1), (5, .lmul, 1), (6, .ldc2_w 260, 3), (9, .iload_n 1, 1), (10, .i2l, 1), (11, .lmul, 1), (12, .ladd, 1), (13, .lconst 1, 1), (14, .ladd, 1), (15, .lstore_n 2, 1), (16, .lload_n 2, 1), (17, .lload_n 2, 1), (18, .lmul, 1), (19, .ldc2_w 262, 3), (22, .lrem, 1), (23, .ldc2_w 264, 3), (26, .ldiv, 1), (27, .l2i, 1), (28, .ireturn, 1)] = true := by decide +kernel
theorem dX8_drawOf_0 : decode cX8_drawOf 0 = .ok (.ldc2_w 258, 3) := dget zdX8_drawOf_0 0 rfl
theorem dX8_drawOf_3 : decode cX8_drawOf 3 = .ok (.iload_n 0, 1) := dget zdX8_drawOf_0 1 rfl
theorem dX8_drawOf_4 : decode cX8_drawOf 4 = .ok (.i2l, 1) := dget zdX8_drawOf_0 2 rfl
theorem dX8_drawOf_5 : decode cX8_drawOf 5 = .ok (.lmul, 1) := dget zdX8_drawOf_0 3 rfl
theorem dX8_drawOf_6 : decode cX8_drawOf 6 = .ok (.ldc2_w 260, 3) := dget zdX8_drawOf_0 4 rfl
theorem dX8_drawOf_9 : decode cX8_drawOf 9 = .ok (.iload_n 1, 1) := dget zdX8_drawOf_0 5 rfl
theorem dX8_drawOf_10 : decode cX8_drawOf 10 = .ok (.i2l, 1) := dget zdX8_drawOf_0 6 rfl
theorem dX8_drawOf_11 : decode cX8_drawOf 11 = .ok (.lmul, 1) := dget zdX8_drawOf_0 7 rfl
theorem dX8_drawOf_12 : decode cX8_drawOf 12 = .ok (.ladd, 1) := dget zdX8_drawOf_0 8 rfl
theorem dX8_drawOf_13 : decode cX8_drawOf 13 = .ok (.lconst 1, 1) := dget zdX8_drawOf_0 9 rfl
theorem dX8_drawOf_14 : decode cX8_drawOf 14 = .ok (.ladd, 1) := dget zdX8_drawOf_0 10 rfl
theorem dX8_drawOf_15 : decode cX8_drawOf 15 = .ok (.lstore_n 2, 1) := dget zdX8_drawOf_0 11 rfl
theorem dX8_drawOf_16 : decode cX8_drawOf 16 = .ok (.lload_n 2, 1) := dget zdX8_drawOf_0 12 rfl
theorem dX8_drawOf_17 : decode cX8_drawOf 17 = .ok (.lload_n 2, 1) := dget zdX8_drawOf_0 13 rfl
theorem dX8_drawOf_18 : decode cX8_drawOf 18 = .ok (.lmul, 1) := dget zdX8_drawOf_0 14 rfl
theorem dX8_drawOf_19 : decode cX8_drawOf 19 = .ok (.ldc2_w 262, 3) := dget zdX8_drawOf_0 15 rfl
theorem dX8_drawOf_22 : decode cX8_drawOf 22 = .ok (.lrem, 1) := dget zdX8_drawOf_0 16 rfl
theorem dX8_drawOf_23 : decode cX8_drawOf 23 = .ok (.ldc2_w 264, 3) := dget zdX8_drawOf_0 17 rfl
theorem dX8_drawOf_26 : decode cX8_drawOf 26 = .ok (.ldiv, 1) := dget zdX8_drawOf_0 18 rfl
theorem dX8_drawOf_27 : decode cX8_drawOf 27 = .ok (.l2i, 1) := dget zdX8_drawOf_0 19 rfl
theorem dX8_drawOf_28 : decode cX8_drawOf 28 = .ok (.ireturn, 1) := dget zdX8_drawOf_0 20 rfl
theorem zdX8_winterThing_0 : dchk cX8_winterThing [(0, .aload_n 0, 1), (1, .getfield 23, 3), (4, .invokevirtual 111, 3), (7, .istore_n 2, 1), (8, .aload_n 0, 1), (9, .getfield 23, 3), (12, .getfield 252, 3), (15, .istore_n 3, 1), (16, .iload_n 2, 1), (17, .ifCond .le 7, 3), (20, .iload_n 3, 1), (21, .ifCond .gt 5, 3), (24, .iconst 0, 1), (25, .ireturn, 1), (26, .iload_n 1, 1), (27, .iload_n 2, 1), (28, .irem, 1), (29, .istore 4, 2), (31, .iload_n 1, 1), (32, .bipush 64, 2), (34, .idiv, 1), (35, .iconst 4, 1), (36, .irem, 1), (37, .istore 5, 2), (39, .iload 5, 2), (41, .ifCond .ne 21, 3), (44, .aload_n 0, 1), (45, .getfield 23, 3), (48, .iload 4, 2), (50, .iload_n 1, 1), (51, .sipush 256, 3), (54, .idiv, 1), (55, .iconst 4, 1), (56, .irem, 1), (57, .invokevirtual 169, 3), (60, .iconst 0, 1), (61, .ireturn, 1), (62, .iload 5, 2), (64, .iconst 1, 1), (65, .if_icmp .ne 16, 3), (68, .aload_n 0, 1), (69, .getfield 23, 3), (72, .iload 4, 2), (74, .iload_n 3, 1), (75, .idiv, 1), (76, .invokevirtual 179, 3), (79, .iconst 0, 1), (80, .ireturn, 1), (81, .aload_n 0, 1), (82, .getfield 48, 3), (85, .aload_n 0, 1), (86, .getfield 23, 3), (89, .iload 4, 2), (91, .iload_n 3, 1), (92, .irem, 1), (93, .iload_n 1, 1), (94, .sipush 256, 3), (97, .idiv, 1), (98, .bipush 20, 2), (100, .irem, 1), (101, .iconst 1, 1), (102, .iadd, 1), (103, .iconst 0, 1), (104, .invokevirtual 134, 3), (107, .aload_n 0, 1), (108, .getfield 48, 3), (111, .aload_n 0, 1), (112, .getfield 23, 3), (115, .iload_n 1, 1), (116, .bipush 16, 2), (118, .idiv, 1), (119, .iconst 4, 1), (120, .irem, 1), (121, .invokevirtual 162, 3), (124, .aload_n 0, 1), (125, .getfield 48, 3), (128, .getfield 138, 3), (131, .bipush 99, 2), (133, .if_icmp .ne 7, 3), (136, .iconst 1, 1), (137, .goto 4, 3), (140, .iconst 0, 1), (141, .ireturn, 1)] = true := by decide +kernel
theorem dX8_winterThing_0 : decode cX8_winterThing 0 = .ok (.aload_n 0, 1) := dget zdX8_winterThing_0 0 rfl
theorem dX8_winterThing_1 : decode cX8_winterThing 1 = .ok (.getfield 23, 3) := dget zdX8_winterThing_0 1 rfl
theorem dX8_winterThing_4 : decode cX8_winterThing 4 = .ok (.invokevirtual 111, 3) := dget zdX8_winterThing_0 2 rfl
theorem dX8_winterThing_7 : decode cX8_winterThing 7 = .ok (.istore_n 2, 1) := dget zdX8_winterThing_0 3 rfl
theorem dX8_winterThing_8 : decode cX8_winterThing 8 = .ok (.aload_n 0, 1) := dget zdX8_winterThing_0 4 rfl
theorem dX8_winterThing_9 : decode cX8_winterThing 9 = .ok (.getfield 23, 3) := dget zdX8_winterThing_0 5 rfl
theorem dX8_winterThing_12 : decode cX8_winterThing 12 = .ok (.getfield 252, 3) := dget zdX8_winterThing_0 6 rfl
theorem dX8_winterThing_15 : decode cX8_winterThing 15 = .ok (.istore_n 3, 1) := dget zdX8_winterThing_0 7 rfl
theorem dX8_winterThing_16 : decode cX8_winterThing 16 = .ok (.iload_n 2, 1) := dget zdX8_winterThing_0 8 rfl
theorem dX8_winterThing_17 : decode cX8_winterThing 17 = .ok (.ifCond .le 7, 3) := dget zdX8_winterThing_0 9 rfl
theorem dX8_winterThing_20 : decode cX8_winterThing 20 = .ok (.iload_n 3, 1) := dget zdX8_winterThing_0 10 rfl
theorem dX8_winterThing_21 : decode cX8_winterThing 21 = .ok (.ifCond .gt 5, 3) := dget zdX8_winterThing_0 11 rfl
theorem dX8_winterThing_24 : decode cX8_winterThing 24 = .ok (.iconst 0, 1) := dget zdX8_winterThing_0 12 rfl
theorem dX8_winterThing_25 : decode cX8_winterThing 25 = .ok (.ireturn, 1) := dget zdX8_winterThing_0 13 rfl
theorem dX8_winterThing_26 : decode cX8_winterThing 26 = .ok (.iload_n 1, 1) := dget zdX8_winterThing_0 14 rfl
theorem dX8_winterThing_27 : decode cX8_winterThing 27 = .ok (.iload_n 2, 1) := dget zdX8_winterThing_0 15 rfl
theorem dX8_winterThing_28 : decode cX8_winterThing 28 = .ok (.irem, 1) := dget zdX8_winterThing_0 16 rfl
theorem dX8_winterThing_29 : decode cX8_winterThing 29 = .ok (.istore 4, 2) := dget zdX8_winterThing_0 17 rfl
theorem dX8_winterThing_31 : decode cX8_winterThing 31 = .ok (.iload_n 1, 1) := dget zdX8_winterThing_0 18 rfl
theorem dX8_winterThing_32 : decode cX8_winterThing 32 = .ok (.bipush 64, 2) := dget zdX8_winterThing_0 19 rfl
theorem dX8_winterThing_34 : decode cX8_winterThing 34 = .ok (.idiv, 1) := dget zdX8_winterThing_0 20 rfl
theorem dX8_winterThing_35 : decode cX8_winterThing 35 = .ok (.iconst 4, 1) := dget zdX8_winterThing_0 21 rfl
theorem dX8_winterThing_36 : decode cX8_winterThing 36 = .ok (.irem, 1) := dget zdX8_winterThing_0 22 rfl
theorem dX8_winterThing_37 : decode cX8_winterThing 37 = .ok (.istore 5, 2) := dget zdX8_winterThing_0 23 rfl
theorem dX8_winterThing_39 : decode cX8_winterThing 39 = .ok (.iload 5, 2) := dget zdX8_winterThing_0 24 rfl
theorem dX8_winterThing_41 : decode cX8_winterThing 41 = .ok (.ifCond .ne 21, 3) := dget zdX8_winterThing_0 25 rfl
theorem dX8_winterThing_44 : decode cX8_winterThing 44 = .ok (.aload_n 0, 1) := dget zdX8_winterThing_0 26 rfl
theorem dX8_winterThing_45 : decode cX8_winterThing 45 = .ok (.getfield 23, 3) := dget zdX8_winterThing_0 27 rfl
theorem dX8_winterThing_48 : decode cX8_winterThing 48 = .ok (.iload 4, 2) := dget zdX8_winterThing_0 28 rfl
theorem dX8_winterThing_50 : decode cX8_winterThing 50 = .ok (.iload_n 1, 1) := dget zdX8_winterThing_0 29 rfl
theorem dX8_winterThing_51 : decode cX8_winterThing 51 = .ok (.sipush 256, 3) := dget zdX8_winterThing_0 30 rfl
theorem dX8_winterThing_54 : decode cX8_winterThing 54 = .ok (.idiv, 1) := dget zdX8_winterThing_0 31 rfl
theorem dX8_winterThing_55 : decode cX8_winterThing 55 = .ok (.iconst 4, 1) := dget zdX8_winterThing_0 32 rfl
theorem dX8_winterThing_56 : decode cX8_winterThing 56 = .ok (.irem, 1) := dget zdX8_winterThing_0 33 rfl
theorem dX8_winterThing_57 : decode cX8_winterThing 57 = .ok (.invokevirtual 169, 3) := dget zdX8_winterThing_0 34 rfl
theorem dX8_winterThing_60 : decode cX8_winterThing 60 = .ok (.iconst 0, 1) := dget zdX8_winterThing_0 35 rfl
theorem dX8_winterThing_61 : decode cX8_winterThing 61 = .ok (.ireturn, 1) := dget zdX8_winterThing_0 36 rfl
theorem dX8_winterThing_62 : decode cX8_winterThing 62 = .ok (.iload 5, 2) := dget zdX8_winterThing_0 37 rfl
theorem dX8_winterThing_64 : decode cX8_winterThing 64 = .ok (.iconst 1, 1) := dget zdX8_winterThing_0 38 rfl
theorem dX8_winterThing_65 : decode cX8_winterThing 65 = .ok (.if_icmp .ne 16, 3) := dget zdX8_winterThing_0 39 rfl
theorem dX8_winterThing_68 : decode cX8_winterThing 68 = .ok (.aload_n 0, 1) := dget zdX8_winterThing_0 40 rfl
theorem dX8_winterThing_69 : decode cX8_winterThing 69 = .ok (.getfield 23, 3) := dget zdX8_winterThing_0 41 rfl
theorem dX8_winterThing_72 : decode cX8_winterThing 72 = .ok (.iload 4, 2) := dget zdX8_winterThing_0 42 rfl
theorem dX8_winterThing_74 : decode cX8_winterThing 74 = .ok (.iload_n 3, 1) := dget zdX8_winterThing_0 43 rfl
theorem dX8_winterThing_75 : decode cX8_winterThing 75 = .ok (.idiv, 1) := dget zdX8_winterThing_0 44 rfl
theorem dX8_winterThing_76 : decode cX8_winterThing 76 = .ok (.invokevirtual 179, 3) := dget zdX8_winterThing_0 45 rfl
theorem dX8_winterThing_79 : decode cX8_winterThing 79 = .ok (.iconst 0, 1) := dget zdX8_winterThing_0 46 rfl
theorem dX8_winterThing_80 : decode cX8_winterThing 80 = .ok (.ireturn, 1) := dget zdX8_winterThing_0 47 rfl
theorem dX8_winterThing_81 : decode cX8_winterThing 81 = .ok (.aload_n 0, 1) := dget zdX8_winterThing_0 48 rfl
theorem dX8_winterThing_82 : decode cX8_winterThing 82 = .ok (.getfield 48, 3) := dget zdX8_winterThing_0 49 rfl
theorem dX8_winterThing_85 : decode cX8_winterThing 85 = .ok (.aload_n 0, 1) := dget zdX8_winterThing_0 50 rfl
theorem dX8_winterThing_86 : decode cX8_winterThing 86 = .ok (.getfield 23, 3) := dget zdX8_winterThing_0 51 rfl
theorem dX8_winterThing_89 : decode cX8_winterThing 89 = .ok (.iload 4, 2) := dget zdX8_winterThing_0 52 rfl
theorem dX8_winterThing_91 : decode cX8_winterThing 91 = .ok (.iload_n 3, 1) := dget zdX8_winterThing_0 53 rfl
theorem dX8_winterThing_92 : decode cX8_winterThing 92 = .ok (.irem, 1) := dget zdX8_winterThing_0 54 rfl
theorem dX8_winterThing_93 : decode cX8_winterThing 93 = .ok (.iload_n 1, 1) := dget zdX8_winterThing_0 55 rfl
theorem dX8_winterThing_94 : decode cX8_winterThing 94 = .ok (.sipush 256, 3) := dget zdX8_winterThing_0 56 rfl
theorem dX8_winterThing_97 : decode cX8_winterThing 97 = .ok (.idiv, 1) := dget zdX8_winterThing_0 57 rfl
theorem dX8_winterThing_98 : decode cX8_winterThing 98 = .ok (.bipush 20, 2) := dget zdX8_winterThing_0 58 rfl
theorem dX8_winterThing_100 : decode cX8_winterThing 100 = .ok (.irem, 1) := dget zdX8_winterThing_0 59 rfl
theorem dX8_winterThing_101 : decode cX8_winterThing 101 = .ok (.iconst 1, 1) := dget zdX8_winterThing_0 60 rfl
theorem dX8_winterThing_102 : decode cX8_winterThing 102 = .ok (.iadd, 1) := dget zdX8_winterThing_0 61 rfl
theorem dX8_winterThing_103 : decode cX8_winterThing 103 = .ok (.iconst 0, 1) := dget zdX8_winterThing_0 62 rfl
theorem dX8_winterThing_104 : decode cX8_winterThing 104 = .ok (.invokevirtual 134, 3) := dget zdX8_winterThing_0 63 rfl
theorem dX8_winterThing_107 : decode cX8_winterThing 107 = .ok (.aload_n 0, 1) := dget zdX8_winterThing_0 64 rfl
theorem dX8_winterThing_108 : decode cX8_winterThing 108 = .ok (.getfield 48, 3) := dget zdX8_winterThing_0 65 rfl
theorem dX8_winterThing_111 : decode cX8_winterThing 111 = .ok (.aload_n 0, 1) := dget zdX8_winterThing_0 66 rfl
theorem dX8_winterThing_112 : decode cX8_winterThing 112 = .ok (.getfield 23, 3) := dget zdX8_winterThing_0 67 rfl
theorem dX8_winterThing_115 : decode cX8_winterThing 115 = .ok (.iload_n 1, 1) := dget zdX8_winterThing_0 68 rfl
theorem dX8_winterThing_116 : decode cX8_winterThing 116 = .ok (.bipush 16, 2) := dget zdX8_winterThing_0 69 rfl
theorem dX8_winterThing_118 : decode cX8_winterThing 118 = .ok (.idiv, 1) := dget zdX8_winterThing_0 70 rfl
theorem dX8_winterThing_119 : decode cX8_winterThing 119 = .ok (.iconst 4, 1) := dget zdX8_winterThing_0 71 rfl
theorem dX8_winterThing_120 : decode cX8_winterThing 120 = .ok (.irem, 1) := dget zdX8_winterThing_0 72 rfl
theorem dX8_winterThing_121 : decode cX8_winterThing 121 = .ok (.invokevirtual 162, 3) := dget zdX8_winterThing_0 73 rfl
theorem dX8_winterThing_124 : decode cX8_winterThing 124 = .ok (.aload_n 0, 1) := dget zdX8_winterThing_0 74 rfl
theorem dX8_winterThing_125 : decode cX8_winterThing 125 = .ok (.getfield 48, 3) := dget zdX8_winterThing_0 75 rfl
theorem dX8_winterThing_128 : decode cX8_winterThing 128 = .ok (.getfield 138, 3) := dget zdX8_winterThing_0 76 rfl
theorem dX8_winterThing_131 : decode cX8_winterThing 131 = .ok (.bipush 99, 2) := dget zdX8_winterThing_0 77 rfl
theorem dX8_winterThing_133 : decode cX8_winterThing 133 = .ok (.if_icmp .ne 7, 3) := dget zdX8_winterThing_0 78 rfl
theorem dX8_winterThing_136 : decode cX8_winterThing 136 = .ok (.iconst 1, 1) := dget zdX8_winterThing_0 79 rfl
theorem dX8_winterThing_137 : decode cX8_winterThing 137 = .ok (.goto 4, 3) := dget zdX8_winterThing_0 80 rfl
theorem dX8_winterThing_140 : decode cX8_winterThing 140 = .ok (.iconst 0, 1) := dget zdX8_winterThing_0 81 rfl
theorem dX8_winterThing_141 : decode cX8_winterThing 141 = .ok (.ireturn, 1) := dget zdX8_winterThing_0 82 rfl
theorem zdX9_in_0 : dchk cX9_in [(0, .iload_n 0, 1), (1, .iload_n 1, 1), (2, .if_icmp .lt 12, 3), (5, .iload_n 0, 1), (6, .iload_n 2, 1), (7, .if_icmp .gt 7, 3), (10, .iconst 1, 1), (11, .goto 4, 3), (14, .iconst 0, 1), (15, .ireturn, 1)] = true := by decide +kernel
theorem dX9_in_0 : decode cX9_in 0 = .ok (.iload_n 0, 1) := dget zdX9_in_0 0 rfl
theorem dX9_in_1 : decode cX9_in 1 = .ok (.iload_n 1, 1) := dget zdX9_in_0 1 rfl
theorem dX9_in_2 : decode cX9_in 2 = .ok (.if_icmp .lt 12, 3) := dget zdX9_in_0 2 rfl
theorem dX9_in_5 : decode cX9_in 5 = .ok (.iload_n 0, 1) := dget zdX9_in_0 3 rfl
theorem dX9_in_6 : decode cX9_in 6 = .ok (.iload_n 2, 1) := dget zdX9_in_0 4 rfl
theorem dX9_in_7 : decode cX9_in 7 = .ok (.if_icmp .gt 7, 3) := dget zdX9_in_0 5 rfl
theorem dX9_in_10 : decode cX9_in 10 = .ok (.iconst 1, 1) := dget zdX9_in_0 6 rfl
theorem dX9_in_11 : decode cX9_in 11 = .ok (.goto 4, 3) := dget zdX9_in_0 7 rfl
theorem dX9_in_14 : decode cX9_in 14 = .ok (.iconst 0, 1) := dget zdX9_in_0 8 rfl
theorem dX9_in_15 : decode cX9_in 15 = .ok (.ireturn, 1) := dget zdX9_in_0 9 rfl
theorem zdX9_has_0 : dchk cX9_has [(0, .iload_n 0, 1), (1, .iload_n 1, 1), (2, .ishr, 1), (3, .iconst 1, 1), (4, .iand, 1), (5, .iconst 1, 1), (6, .if_icmp .ne 7, 3), (9, .iconst 1, 1), (10, .goto 4, 3), (13, .iconst 0, 1), (14, .ireturn, 1)] = true := by decide +kernel
theorem dX9_has_0 : decode cX9_has 0 = .ok (.iload_n 0, 1) := dget zdX9_has_0 0 rfl
theorem dX9_has_1 : decode cX9_has 1 = .ok (.iload_n 1, 1) := dget zdX9_has_0 1 rfl
theorem dX9_has_2 : decode cX9_has 2 = .ok (.ishr, 1) := dget zdX9_has_0 2 rfl
theorem dX9_has_3 : decode cX9_has 3 = .ok (.iconst 1, 1) := dget zdX9_has_0 3 rfl
theorem dX9_has_4 : decode cX9_has 4 = .ok (.iand, 1) := dget zdX9_has_0 4 rfl
theorem dX9_has_5 : decode cX9_has 5 = .ok (.iconst 1, 1) := dget zdX9_has_0 5 rfl
theorem dX9_has_6 : decode cX9_has 6 = .ok (.if_icmp .ne 7, 3) := dget zdX9_has_0 6 rfl
theorem dX9_has_9 : decode cX9_has 9 = .ok (.iconst 1, 1) := dget zdX9_has_0 7 rfl
theorem dX9_has_10 : decode cX9_has 10 = .ok (.goto 4, 3) := dget zdX9_has_0 8 rfl
theorem dX9_has_13 : decode cX9_has 13 = .ok (.iconst 0, 1) := dget zdX9_has_0 9 rfl
theorem dX9_has_14 : decode cX9_has 14 = .ok (.ireturn, 1) := dget zdX9_has_0 10 rfl
theorem zdX9_init_0 : dchk cX9_init [(0, .aload_n 0, 1), (1, .invokespecial 1, 3), (4, .aload_n 0, 1), (5, .bipush 48, 2), (7, .newarray .int, 2), (9, .putfield 7, 3), (12, .aload_n 0, 1), (13, .bipush 48, 2), (15, .newarray .int, 2), (17, .putfield 13, 3), (20, .aload_n 0, 1), (21, .bipush 6, 2), (23, .newarray .int, 2), (25, .putfield 16, 3), (28, .aload_n 0, 1), (29, .bipush 6, 2), (31, .newarray .int, 2), (33, .putfield 19, 3), (36, .aload_n 0, 1), (37, .bipush 6, 2), (39, .newarray .int, 2), (41, .putfield 22, 3), (44, .aload_n 0, 1), (45, .sipush 200, 3), (48, .newarray .int, 2), (50, .putfield 25, 3), (53, .aload_n 0, 1), (54, .bipush 48, 2), (56, .newarray .int, 2), (58, .putfield 28, 3), (61, .aload_n 0, 1), (62, .bipush 48, 2), (64, .newarray .int, 2), (66, .putfield 31, 3), (69, .aload_n 0, 1), (70, .bipush 8, 2), (72, .newarray .int, 2), (74, .putfield 34, 3), (77, .aload_n 0, 1), (78, .bipush 8, 2), (80, .newarray .int, 2), (82, .putfield 37, 3), (85, .aload_n 0, 1), (86, .sipush 776, 3), (89, .newarray .int, 2), (91, .putfield 40, 3), (94, .aload_n 0, 1), (95, .bipush 48, 2), (97, .newarray .int, 2), (99, .putfield 43, 3), (102, .aload_n 0, 1), (103, .bipush 97, 2), (105, .newarray .int, 2), (107, .putfield 46, 3), (110, .aload_n 0, 1), (111, .sipush 194, 3), (114, .newarray .int, 2), (116, .putfield 49, 3), (119, .aload_n 0, 1), (120, .iconst 4, 1), (121, .putfield 52, 3), (124, .aload_n 0, 1), (125, .bipush 10, 2), (127, .invokevirtual 56, 3), (130, .aload_n 0, 1), (131, .bipush 103, 2), (133, .invokevirtual 56, 3), (136, .aload_n 0, 1), (137, .sipush 1002, 3), (140, .invokevirtual 56, 3), (143, .aload_n 0, 1), (144, .sipush 310, 3), (147, .invokevirtual 56, 3), (150, .aload_n 0, 1), (151, .sipush 2001, 3), (154, .invokevirtual 56, 3), (157, .aload_n 0, 1), (158, .iconst 0, 1), (159, .invokevirtual 56, 3), (162, .aload_n 0, 1), (163, .getfield 13, 3), (166, .iconst 0, 1), (167, .iconst 0, 1), (168, .iastore, 1), (169, .aload_n 0, 1), (170, .getfield 13, 3), (173, .iconst 5, 1), (174, .iconst 0, 1), (175, .iastore, 1), (176, .aload_n 0, 1), (177, .getfield 13, 3), (180, .bipush 13, 2), (182, .iconst 1, 1), (183, .iastore, 1), (184, .aload_n 0, 1), (185, .getfield 13, 3), (188, .bipush 23, 2), (190, .iconst 2, 1), (191, .iastore, 1), (192, .aload_n 0, 1), (193, .getfield 13, 3), (196, .bipush 9, 2), (198, .iconst 1, 1), (199, .iastore, 1), (200, .return_, 1)] = true := by decide +kernel
theorem dX9_init_0 : decode cX9_init 0 = .ok (.aload_n 0, 1) := dget zdX9_init_0 0 rfl
theorem dX9_init_1 : decode cX9_init 1 = .ok (.invokespecial 1, 3) := dget zdX9_init_0 1 rfl
theorem dX9_init_4 : decode cX9_init 4 = .ok (.aload_n 0, 1) := dget zdX9_init_0 2 rfl
theorem dX9_init_5 : decode cX9_init 5 = .ok (.bipush 48, 2) := dget zdX9_init_0 3 rfl
theorem dX9_init_7 : decode cX9_init 7 = .ok (.newarray .int, 2) := dget zdX9_init_0 4 rfl
theorem dX9_init_9 : decode cX9_init 9 = .ok (.putfield 7, 3) := dget zdX9_init_0 5 rfl
theorem dX9_init_12 : decode cX9_init 12 = .ok (.aload_n 0, 1) := dget zdX9_init_0 6 rfl
theorem dX9_init_13 : decode cX9_init 13 = .ok (.bipush 48, 2) := dget zdX9_init_0 7 rfl
theorem dX9_init_15 : decode cX9_init 15 = .ok (.newarray .int, 2) := dget zdX9_init_0 8 rfl
theorem dX9_init_17 : decode cX9_init 17 = .ok (.putfield 13, 3) := dget zdX9_init_0 9 rfl
theorem dX9_init_20 : decode cX9_init 20 = .ok (.aload_n 0, 1) := dget zdX9_init_0 10 rfl
theorem dX9_init_21 : decode cX9_init 21 = .ok (.bipush 6, 2) := dget zdX9_init_0 11 rfl
theorem dX9_init_23 : decode cX9_init 23 = .ok (.newarray .int, 2) := dget zdX9_init_0 12 rfl
theorem dX9_init_25 : decode cX9_init 25 = .ok (.putfield 16, 3) := dget zdX9_init_0 13 rfl
theorem dX9_init_28 : decode cX9_init 28 = .ok (.aload_n 0, 1) := dget zdX9_init_0 14 rfl
theorem dX9_init_29 : decode cX9_init 29 = .ok (.bipush 6, 2) := dget zdX9_init_0 15 rfl
theorem dX9_init_31 : decode cX9_init 31 = .ok (.newarray .int, 2) := dget zdX9_init_0 16 rfl
theorem dX9_init_33 : decode cX9_init 33 = .ok (.putfield 19, 3) := dget zdX9_init_0 17 rfl
theorem dX9_init_36 : decode cX9_init 36 = .ok (.aload_n 0, 1) := dget zdX9_init_0 18 rfl
theorem dX9_init_37 : decode cX9_init 37 = .ok (.bipush 6, 2) := dget zdX9_init_0 19 rfl
theorem dX9_init_39 : decode cX9_init 39 = .ok (.newarray .int, 2) := dget zdX9_init_0 20 rfl
theorem dX9_init_41 : decode cX9_init 41 = .ok (.putfield 22, 3) := dget zdX9_init_0 21 rfl
theorem dX9_init_44 : decode cX9_init 44 = .ok (.aload_n 0, 1) := dget zdX9_init_0 22 rfl
theorem dX9_init_45 : decode cX9_init 45 = .ok (.sipush 200, 3) := dget zdX9_init_0 23 rfl
theorem dX9_init_48 : decode cX9_init 48 = .ok (.newarray .int, 2) := dget zdX9_init_0 24 rfl
theorem dX9_init_50 : decode cX9_init 50 = .ok (.putfield 25, 3) := dget zdX9_init_0 25 rfl
theorem dX9_init_53 : decode cX9_init 53 = .ok (.aload_n 0, 1) := dget zdX9_init_0 26 rfl
theorem dX9_init_54 : decode cX9_init 54 = .ok (.bipush 48, 2) := dget zdX9_init_0 27 rfl
theorem dX9_init_56 : decode cX9_init 56 = .ok (.newarray .int, 2) := dget zdX9_init_0 28 rfl
theorem dX9_init_58 : decode cX9_init 58 = .ok (.putfield 28, 3) := dget zdX9_init_0 29 rfl
theorem dX9_init_61 : decode cX9_init 61 = .ok (.aload_n 0, 1) := dget zdX9_init_0 30 rfl
theorem dX9_init_62 : decode cX9_init 62 = .ok (.bipush 48, 2) := dget zdX9_init_0 31 rfl
theorem dX9_init_64 : decode cX9_init 64 = .ok (.newarray .int, 2) := dget zdX9_init_0 32 rfl
theorem dX9_init_66 : decode cX9_init 66 = .ok (.putfield 31, 3) := dget zdX9_init_0 33 rfl
theorem dX9_init_69 : decode cX9_init 69 = .ok (.aload_n 0, 1) := dget zdX9_init_0 34 rfl
theorem dX9_init_70 : decode cX9_init 70 = .ok (.bipush 8, 2) := dget zdX9_init_0 35 rfl
theorem dX9_init_72 : decode cX9_init 72 = .ok (.newarray .int, 2) := dget zdX9_init_0 36 rfl
theorem dX9_init_74 : decode cX9_init 74 = .ok (.putfield 34, 3) := dget zdX9_init_0 37 rfl
theorem dX9_init_77 : decode cX9_init 77 = .ok (.aload_n 0, 1) := dget zdX9_init_0 38 rfl
theorem dX9_init_78 : decode cX9_init 78 = .ok (.bipush 8, 2) := dget zdX9_init_0 39 rfl
theorem dX9_init_80 : decode cX9_init 80 = .ok (.newarray .int, 2) := dget zdX9_init_0 40 rfl
theorem dX9_init_82 : decode cX9_init 82 = .ok (.putfield 37, 3) := dget zdX9_init_0 41 rfl
theorem dX9_init_85 : decode cX9_init 85 = .ok (.aload_n 0, 1) := dget zdX9_init_0 42 rfl
theorem dX9_init_86 : decode cX9_init 86 = .ok (.sipush 776, 3) := dget zdX9_init_0 43 rfl
theorem dX9_init_89 : decode cX9_init 89 = .ok (.newarray .int, 2) := dget zdX9_init_0 44 rfl
theorem dX9_init_91 : decode cX9_init 91 = .ok (.putfield 40, 3) := dget zdX9_init_0 45 rfl
theorem dX9_init_94 : decode cX9_init 94 = .ok (.aload_n 0, 1) := dget zdX9_init_0 46 rfl
theorem dX9_init_95 : decode cX9_init 95 = .ok (.bipush 48, 2) := dget zdX9_init_0 47 rfl
theorem dX9_init_97 : decode cX9_init 97 = .ok (.newarray .int, 2) := dget zdX9_init_0 48 rfl
theorem dX9_init_99 : decode cX9_init 99 = .ok (.putfield 43, 3) := dget zdX9_init_0 49 rfl
theorem dX9_init_102 : decode cX9_init 102 = .ok (.aload_n 0, 1) := dget zdX9_init_0 50 rfl
theorem dX9_init_103 : decode cX9_init 103 = .ok (.bipush 97, 2) := dget zdX9_init_0 51 rfl
theorem dX9_init_105 : decode cX9_init 105 = .ok (.newarray .int, 2) := dget zdX9_init_0 52 rfl
theorem dX9_init_107 : decode cX9_init 107 = .ok (.putfield 46, 3) := dget zdX9_init_0 53 rfl
theorem dX9_init_110 : decode cX9_init 110 = .ok (.aload_n 0, 1) := dget zdX9_init_0 54 rfl
theorem dX9_init_111 : decode cX9_init 111 = .ok (.sipush 194, 3) := dget zdX9_init_0 55 rfl
theorem dX9_init_114 : decode cX9_init 114 = .ok (.newarray .int, 2) := dget zdX9_init_0 56 rfl
theorem dX9_init_116 : decode cX9_init 116 = .ok (.putfield 49, 3) := dget zdX9_init_0 57 rfl
theorem dX9_init_119 : decode cX9_init 119 = .ok (.aload_n 0, 1) := dget zdX9_init_0 58 rfl
theorem dX9_init_120 : decode cX9_init 120 = .ok (.iconst 4, 1) := dget zdX9_init_0 59 rfl
theorem dX9_init_121 : decode cX9_init 121 = .ok (.putfield 52, 3) := dget zdX9_init_0 60 rfl
theorem dX9_init_124 : decode cX9_init 124 = .ok (.aload_n 0, 1) := dget zdX9_init_0 61 rfl
theorem dX9_init_125 : decode cX9_init 125 = .ok (.bipush 10, 2) := dget zdX9_init_0 62 rfl
theorem dX9_init_127 : decode cX9_init 127 = .ok (.invokevirtual 56, 3) := dget zdX9_init_0 63 rfl
theorem dX9_init_130 : decode cX9_init 130 = .ok (.aload_n 0, 1) := dget zdX9_init_0 64 rfl
theorem dX9_init_131 : decode cX9_init 131 = .ok (.bipush 103, 2) := dget zdX9_init_0 65 rfl
theorem dX9_init_133 : decode cX9_init 133 = .ok (.invokevirtual 56, 3) := dget zdX9_init_0 66 rfl
theorem dX9_init_136 : decode cX9_init 136 = .ok (.aload_n 0, 1) := dget zdX9_init_0 67 rfl
theorem dX9_init_137 : decode cX9_init 137 = .ok (.sipush 1002, 3) := dget zdX9_init_0 68 rfl
theorem dX9_init_140 : decode cX9_init 140 = .ok (.invokevirtual 56, 3) := dget zdX9_init_0 69 rfl
theorem dX9_init_143 : decode cX9_init 143 = .ok (.aload_n 0, 1) := dget zdX9_init_0 70 rfl
theorem dX9_init_144 : decode cX9_init 144 = .ok (.sipush 310, 3) := dget zdX9_init_0 71 rfl
theorem dX9_init_147 : decode cX9_init 147 = .ok (.invokevirtual 56, 3) := dget zdX9_init_0 72 rfl
theorem dX9_init_150 : decode cX9_init 150 = .ok (.aload_n 0, 1) := dget zdX9_init_0 73 rfl
theorem dX9_init_151 : decode cX9_init 151 = .ok (.sipush 2001, 3) := dget zdX9_init_0 74 rfl
theorem dX9_init_154 : decode cX9_init 154 = .ok (.invokevirtual 56, 3) := dget zdX9_init_0 75 rfl
theorem dX9_init_157 : decode cX9_init 157 = .ok (.aload_n 0, 1) := dget zdX9_init_0 76 rfl
theorem dX9_init_158 : decode cX9_init 158 = .ok (.iconst 0, 1) := dget zdX9_init_0 77 rfl
theorem dX9_init_159 : decode cX9_init 159 = .ok (.invokevirtual 56, 3) := dget zdX9_init_0 78 rfl
theorem dX9_init_162 : decode cX9_init 162 = .ok (.aload_n 0, 1) := dget zdX9_init_0 79 rfl
theorem dX9_init_163 : decode cX9_init 163 = .ok (.getfield 13, 3) := dget zdX9_init_0 80 rfl
theorem dX9_init_166 : decode cX9_init 166 = .ok (.iconst 0, 1) := dget zdX9_init_0 81 rfl
theorem dX9_init_167 : decode cX9_init 167 = .ok (.iconst 0, 1) := dget zdX9_init_0 82 rfl
theorem dX9_init_168 : decode cX9_init 168 = .ok (.iastore, 1) := dget zdX9_init_0 83 rfl
theorem dX9_init_169 : decode cX9_init 169 = .ok (.aload_n 0, 1) := dget zdX9_init_0 84 rfl
theorem dX9_init_170 : decode cX9_init 170 = .ok (.getfield 13, 3) := dget zdX9_init_0 85 rfl
theorem dX9_init_173 : decode cX9_init 173 = .ok (.iconst 5, 1) := dget zdX9_init_0 86 rfl
theorem dX9_init_174 : decode cX9_init 174 = .ok (.iconst 0, 1) := dget zdX9_init_0 87 rfl
theorem dX9_init_175 : decode cX9_init 175 = .ok (.iastore, 1) := dget zdX9_init_0 88 rfl
theorem dX9_init_176 : decode cX9_init 176 = .ok (.aload_n 0, 1) := dget zdX9_init_0 89 rfl
theorem dX9_init_177 : decode cX9_init 177 = .ok (.getfield 13, 3) := dget zdX9_init_0 90 rfl
theorem dX9_init_180 : decode cX9_init 180 = .ok (.bipush 13, 2) := dget zdX9_init_0 91 rfl
theorem dX9_init_182 : decode cX9_init 182 = .ok (.iconst 1, 1) := dget zdX9_init_0 92 rfl
theorem dX9_init_183 : decode cX9_init 183 = .ok (.iastore, 1) := dget zdX9_init_0 93 rfl
theorem dX9_init_184 : decode cX9_init 184 = .ok (.aload_n 0, 1) := dget zdX9_init_0 94 rfl
theorem dX9_init_185 : decode cX9_init 185 = .ok (.getfield 13, 3) := dget zdX9_init_0 95 rfl
theorem dX9_init_188 : decode cX9_init 188 = .ok (.bipush 23, 2) := dget zdX9_init_0 96 rfl
theorem dX9_init_190 : decode cX9_init 190 = .ok (.iconst 2, 1) := dget zdX9_init_0 97 rfl
theorem dX9_init_191 : decode cX9_init 191 = .ok (.iastore, 1) := dget zdX9_init_0 98 rfl
theorem dX9_init_192 : decode cX9_init 192 = .ok (.aload_n 0, 1) := dget zdX9_init_0 99 rfl
theorem dX9_init_193 : decode cX9_init 193 = .ok (.getfield 13, 3) := dget zdX9_init_0 100 rfl
theorem dX9_init_196 : decode cX9_init 196 = .ok (.bipush 9, 2) := dget zdX9_init_0 101 rfl
theorem dX9_init_198 : decode cX9_init 198 = .ok (.iconst 1, 1) := dget zdX9_init_0 102 rfl
theorem dX9_init_199 : decode cX9_init 199 = .ok (.iastore, 1) := dget zdX9_init_0 103 rfl
theorem dX9_init_200 : decode cX9_init 200 = .ok (.return_, 1) := dget zdX9_init_0 104 rfl
theorem zdX9_row_0 : dchk cX9_row [(0, .iload_n 1, 1), (1, .istore_n 2, 1), (2, .aload_n 0, 1), (3, .getfield 52, 3), (6, .iconst 1, 1), (7, .isub, 1), (8, .istore_n 3, 1), (9, .iload_n 3, 1), (10, .ifCond .lt 52, 3), (13, .aload_n 0, 1), (14, .getfield 7, 3), (17, .aload_n 0, 1), (18, .getfield 52, 3), (21, .aload_n 0, 1), (22, .getfield 60, 3), (25, .imul, 1), (26, .iload_n 3, 1), (27, .iadd, 1), (28, .iload_n 2, 1), (29, .bipush 10, 2), (31, .irem, 1), (32, .iastore, 1), (33, .aload_n 0, 1), (34, .getfield 13, 3), (37, .aload_n 0, 1), (38, .getfield 52, 3), (41, .aload_n 0, 1), (42, .getfield 60, 3), (45, .imul, 1), (46, .iload_n 3, 1), (47, .iadd, 1), (48, .bipush (-4), 2), (50, .iastore, 1), (51, .iload_n 2, 1), (52, .bipush 10, 2), (54, .idiv, 1), (55, .istore_n 2, 1), (56, .iinc 3 (-1), 3), (59, .goto (-50), 3), (62, .aload_n 0, 1), (63, .dup, 1), (64, .getfield 60, 3), (67, .iconst 1, 1), (68, .iadd, 1), (69, .putfield 60, 3), (72, .return_, 1)] = true := by decide +kernel
theorem dX9_row_0 : decode cX9_row 0 = .ok (.iload_n 1, 1) := dget zdX9_row_0 0 rfl
theorem dX9_row_1 : decode cX9_row 1 = .ok (.istore_n 2, 1) := dget zdX9_row_0 1 rfl
theorem dX9_row_2 : decode cX9_row 2 = .ok (.aload_n 0, 1) := dget zdX9_row_0 2 rfl
theorem dX9_row_3 : decode cX9_row 3 = .ok (.getfield 52, 3) := dget zdX9_row_0 3 rfl
theorem dX9_row_6 : decode cX9_row 6 = .ok (.iconst 1, 1) := dget zdX9_row_0 4 rfl
theorem dX9_row_7 : decode cX9_row 7 = .ok (.isub, 1) := dget zdX9_row_0 5 rfl
theorem dX9_row_8 : decode cX9_row 8 = .ok (.istore_n 3, 1) := dget zdX9_row_0 6 rfl
theorem dX9_row_9 : decode cX9_row 9 = .ok (.iload_n 3, 1) := dget zdX9_row_0 7 rfl
theorem dX9_row_10 : decode cX9_row 10 = .ok (.ifCond .lt 52, 3) := dget zdX9_row_0 8 rfl
theorem dX9_row_13 : decode cX9_row 13 = .ok (.aload_n 0, 1) := dget zdX9_row_0 9 rfl
theorem dX9_row_14 : decode cX9_row 14 = .ok (.getfield 7, 3) := dget zdX9_row_0 10 rfl
theorem dX9_row_17 : decode cX9_row 17 = .ok (.aload_n 0, 1) := dget zdX9_row_0 11 rfl
theorem dX9_row_18 : decode cX9_row 18 = .ok (.getfield 52, 3) := dget zdX9_row_0 12 rfl
theorem dX9_row_21 : decode cX9_row 21 = .ok (.aload_n 0, 1) := dget zdX9_row_0 13 rfl
theorem dX9_row_22 : decode cX9_row 22 = .ok (.getfield 60, 3) := dget zdX9_row_0 14 rfl
theorem dX9_row_25 : decode cX9_row 25 = .ok (.imul, 1) := dget zdX9_row_0 15 rfl
theorem dX9_row_26 : decode cX9_row 26 = .ok (.iload_n 3, 1) := dget zdX9_row_0 16 rfl
theorem dX9_row_27 : decode cX9_row 27 = .ok (.iadd, 1) := dget zdX9_row_0 17 rfl
theorem dX9_row_28 : decode cX9_row 28 = .ok (.iload_n 2, 1) := dget zdX9_row_0 18 rfl
theorem dX9_row_29 : decode cX9_row 29 = .ok (.bipush 10, 2) := dget zdX9_row_0 19 rfl
theorem dX9_row_31 : decode cX9_row 31 = .ok (.irem, 1) := dget zdX9_row_0 20 rfl
theorem dX9_row_32 : decode cX9_row 32 = .ok (.iastore, 1) := dget zdX9_row_0 21 rfl
theorem dX9_row_33 : decode cX9_row 33 = .ok (.aload_n 0, 1) := dget zdX9_row_0 22 rfl
theorem dX9_row_34 : decode cX9_row 34 = .ok (.getfield 13, 3) := dget zdX9_row_0 23 rfl
theorem dX9_row_37 : decode cX9_row 37 = .ok (.aload_n 0, 1) := dget zdX9_row_0 24 rfl
theorem dX9_row_38 : decode cX9_row 38 = .ok (.getfield 52, 3) := dget zdX9_row_0 25 rfl
theorem dX9_row_41 : decode cX9_row 41 = .ok (.aload_n 0, 1) := dget zdX9_row_0 26 rfl
theorem dX9_row_42 : decode cX9_row 42 = .ok (.getfield 60, 3) := dget zdX9_row_0 27 rfl
theorem dX9_row_45 : decode cX9_row 45 = .ok (.imul, 1) := dget zdX9_row_0 28 rfl
theorem dX9_row_46 : decode cX9_row 46 = .ok (.iload_n 3, 1) := dget zdX9_row_0 29 rfl
theorem dX9_row_47 : decode cX9_row 47 = .ok (.iadd, 1) := dget zdX9_row_0 30 rfl
theorem dX9_row_48 : decode cX9_row 48 = .ok (.bipush (-4), 2) := dget zdX9_row_0 31 rfl
theorem dX9_row_50 : decode cX9_row 50 = .ok (.iastore, 1) := dget zdX9_row_0 32 rfl
theorem dX9_row_51 : decode cX9_row 51 = .ok (.iload_n 2, 1) := dget zdX9_row_0 33 rfl
theorem dX9_row_52 : decode cX9_row 52 = .ok (.bipush 10, 2) := dget zdX9_row_0 34 rfl
theorem dX9_row_54 : decode cX9_row 54 = .ok (.idiv, 1) := dget zdX9_row_0 35 rfl
theorem dX9_row_55 : decode cX9_row 55 = .ok (.istore_n 2, 1) := dget zdX9_row_0 36 rfl
theorem dX9_row_56 : decode cX9_row 56 = .ok (.iinc 3 (-1), 3) := dget zdX9_row_0 37 rfl
theorem dX9_row_59 : decode cX9_row 59 = .ok (.goto (-50), 3) := dget zdX9_row_0 38 rfl
theorem dX9_row_62 : decode cX9_row 62 = .ok (.aload_n 0, 1) := dget zdX9_row_0 39 rfl
theorem dX9_row_63 : decode cX9_row 63 = .ok (.dup, 1) := dget zdX9_row_0 40 rfl
theorem dX9_row_64 : decode cX9_row 64 = .ok (.getfield 60, 3) := dget zdX9_row_0 41 rfl
theorem dX9_row_67 : decode cX9_row 67 = .ok (.iconst 1, 1) := dget zdX9_row_0 42 rfl
theorem dX9_row_68 : decode cX9_row 68 = .ok (.iadd, 1) := dget zdX9_row_0 43 rfl
theorem dX9_row_69 : decode cX9_row 69 = .ok (.putfield 60, 3) := dget zdX9_row_0 44 rfl
theorem dX9_row_72 : decode cX9_row 72 = .ok (.return_, 1) := dget zdX9_row_0 45 rfl
theorem zdX9_cells_0 : dchk cX9_cells [(0, .aload_n 0, 1), (1, .getfield 60, 3), (4, .aload_n 0, 1), (5, .getfield 52, 3), (8, .imul, 1), (9, .ireturn, 1)] = true := by decide +kernel
theorem dX9_cells_0 : decode cX9_cells 0 = .ok (.aload_n 0, 1) := dget zdX9_cells_0 0 rfl
theorem dX9_cells_1 : decode cX9_cells 1 = .ok (.getfield 60, 3) := dget zdX9_cells_0 1 rfl
theorem dX9_cells_4 : decode cX9_cells 4 = .ok (.aload_n 0, 1) := dget zdX9_cells_0 2 rfl
theorem dX9_cells_5 : decode cX9_cells 5 = .ok (.getfield 52, 3) := dget zdX9_cells_0 3 rfl
theorem dX9_cells_8 : decode cX9_cells 8 = .ok (.imul, 1) := dget zdX9_cells_0 4 rfl
theorem dX9_cells_9 : decode cX9_cells 9 = .ok (.ireturn, 1) := dget zdX9_cells_0 5 rfl
theorem zdX9_isCell_0 : dchk cX9_isCell [(0, .iload_n 1, 1), (1, .iconst 0, 1), (2, .aload_n 0, 1), (3, .invokevirtual 63, 3), (6, .iconst 1, 1), (7, .isub, 1), (8, .invokestatic 67, 3), (11, .ireturn, 1)] = true := by decide +kernel
theorem dX9_isCell_0 : decode cX9_isCell 0 = .ok (.iload_n 1, 1) := dget zdX9_isCell_0 0 rfl
theorem dX9_isCell_1 : decode cX9_isCell 1 = .ok (.iconst 0, 1) := dget zdX9_isCell_0 1 rfl
theorem dX9_isCell_2 : decode cX9_isCell 2 = .ok (.aload_n 0, 1) := dget zdX9_isCell_0 2 rfl
theorem dX9_isCell_3 : decode cX9_isCell 3 = .ok (.invokevirtual 63, 3) := dget zdX9_isCell_0 3 rfl
theorem dX9_isCell_6 : decode cX9_isCell 6 = .ok (.iconst 1, 1) := dget zdX9_isCell_0 4 rfl
theorem dX9_isCell_7 : decode cX9_isCell 7 = .ok (.isub, 1) := dget zdX9_isCell_0 5 rfl
theorem dX9_isCell_8 : decode cX9_isCell 8 = .ok (.invokestatic 67, 3) := dget zdX9_isCell_0 6 rfl
theorem dX9_isCell_11 : decode cX9_isCell 11 = .ok (.ireturn, 1) := dget zdX9_isCell_0 7 rfl
theorem zdX9_isColumn_0 : dchk cX9_isColumn [(0, .iload_n 1, 1), (1, .iconst 0, 1), (2, .aload_n 0, 1), (3, .getfield 52, 3), (6, .iconst 1, 1), (7, .isub, 1), (8, .invokestatic 67, 3), (11, .ireturn, 1)] = true := by decide +kernel
theorem dX9_isColumn_0 : decode cX9_isColumn 0 = .ok (.iload_n 1, 1) := dget zdX9_isColumn_0 0 rfl
theorem dX9_isColumn_1 : decode cX9_isColumn 1 = .ok (.iconst 0, 1) := dget zdX9_isColumn_0 1 rfl
theorem dX9_isColumn_2 : decode cX9_isColumn 2 = .ok (.aload_n 0, 1) := dget zdX9_isColumn_0 2 rfl
theorem dX9_isColumn_3 : decode cX9_isColumn 3 = .ok (.getfield 52, 3) := dget zdX9_isColumn_0 3 rfl
theorem dX9_isColumn_6 : decode cX9_isColumn 6 = .ok (.iconst 1, 1) := dget zdX9_isColumn_0 4 rfl
theorem dX9_isColumn_7 : decode cX9_isColumn 7 = .ok (.isub, 1) := dget zdX9_isColumn_0 5 rfl
theorem dX9_isColumn_8 : decode cX9_isColumn 8 = .ok (.invokestatic 67, 3) := dget zdX9_isColumn_0 6 rfl
theorem dX9_isColumn_11 : decode cX9_isColumn 11 = .ok (.ireturn, 1) := dget zdX9_isColumn_0 7 rfl
theorem zdX9_isSide_0 : dchk cX9_isSide [(0, .iload_n 0, 1), (1, .iconst 0, 1), (2, .iconst 3, 1), (3, .invokestatic 67, 3), (6, .ireturn, 1)] = true := by decide +kernel
theorem dX9_isSide_0 : decode cX9_isSide 0 = .ok (.iload_n 0, 1) := dget zdX9_isSide_0 0 rfl
theorem dX9_isSide_1 : decode cX9_isSide 1 = .ok (.iconst 0, 1) := dget zdX9_isSide_0 1 rfl
theorem dX9_isSide_2 : decode cX9_isSide 2 = .ok (.iconst 3, 1) := dget zdX9_isSide_0 2 rfl
theorem dX9_isSide_3 : decode cX9_isSide 3 = .ok (.invokestatic 67, 3) := dget zdX9_isSide_0 3 rfl
theorem dX9_isSide_6 : decode cX9_isSide 6 = .ok (.ireturn, 1) := dget zdX9_isSide_0 4 rfl
theorem zdX9_isHeels_0 : dchk cX9_isHeels [(0, .iload_n 0, 1), (1, .iconst 0, 1), (2, .bipush 8, 2), (4, .invokestatic 67, 3), (7, .ifCond .ne 14, 3), (10, .iload_n 0, 1), (11, .bipush 11, 2), (13, .bipush 18, 2), (15, .invokestatic 67, 3), (18, .ifCond .eq 7, 3), (21, .iconst 1, 1), (22, .goto 4, 3), (25, .iconst 0, 1), (26, .ireturn, 1)] = true := by decide +kernel
theorem dX9_isHeels_0 : decode cX9_isHeels 0 = .ok (.iload_n 0, 1) := dget zdX9_isHeels_0 0 rfl
theorem dX9_isHeels_1 : decode cX9_isHeels 1 = .ok (.iconst 0, 1) := dget zdX9_isHeels_0 1 rfl
theorem dX9_isHeels_2 : decode cX9_isHeels 2 = .ok (.bipush 8, 2) := dget zdX9_isHeels_0 2 rfl
theorem dX9_isHeels_4 : decode cX9_isHeels 4 = .ok (.invokestatic 67, 3) := dget zdX9_isHeels_0 3 rfl
theorem dX9_isHeels_7 : decode cX9_isHeels 7 = .ok (.ifCond .ne 14, 3) := dget zdX9_isHeels_0 4 rfl
theorem dX9_isHeels_10 : decode cX9_isHeels 10 = .ok (.iload_n 0, 1) := dget zdX9_isHeels_0 5 rfl
theorem dX9_isHeels_11 : decode cX9_isHeels 11 = .ok (.bipush 11, 2) := dget zdX9_isHeels_0 6 rfl
theorem dX9_isHeels_13 : decode cX9_isHeels 13 = .ok (.bipush 18, 2) := dget zdX9_isHeels_0 7 rfl
theorem dX9_isHeels_15 : decode cX9_isHeels 15 = .ok (.invokestatic 67, 3) := dget zdX9_isHeels_0 8 rfl
theorem dX9_isHeels_18 : decode cX9_isHeels 18 = .ok (.ifCond .eq 7, 3) := dget zdX9_isHeels_0 9 rfl
theorem dX9_isHeels_21 : decode cX9_isHeels 21 = .ok (.iconst 1, 1) := dget zdX9_isHeels_0 10 rfl
theorem dX9_isHeels_22 : decode cX9_isHeels 22 = .ok (.goto 4, 3) := dget zdX9_isHeels_0 11 rfl
theorem dX9_isHeels_25 : decode cX9_isHeels 25 = .ok (.iconst 0, 1) := dget zdX9_isHeels_0 12 rfl
theorem dX9_isHeels_26 : decode cX9_isHeels 26 = .ok (.ireturn, 1) := dget zdX9_isHeels_0 13 rfl
theorem zdX9_isSlide_0 : dchk cX9_isSlide [(0, .aload_n 0, 1), (1, .iload_n 1, 1), (2, .invokevirtual 71, 3), (5, .ifCond .eq 24, 3), (8, .iload_n 2, 1), (9, .iconst 1, 1), (10, .bipush 20, 2), (12, .invokestatic 67, 3), (15, .ifCond .eq 14, 3), (18, .iload_n 3, 1), (19, .invokestatic 75, 3), (22, .ifCond .eq 7, 3), (25, .iconst 1, 1), (26, .goto 4, 3), (29, .iconst 0, 1), (30, .ireturn, 1)] = true := by decide +kernel
theorem dX9_isSlide_0 : decode cX9_isSlide 0 = .ok (.aload_n 0, 1) := dget zdX9_isSlide_0 0 rfl
theorem dX9_isSlide_1 : decode cX9_isSlide 1 = .ok (.iload_n 1, 1) := dget zdX9_isSlide_0 1 rfl
theorem dX9_isSlide_2 : decode cX9_isSlide 2 = .ok (.invokevirtual 71, 3) := dget zdX9_isSlide_0 2 rfl
theorem dX9_isSlide_5 : decode cX9_isSlide 5 = .ok (.ifCond .eq 24, 3) := dget zdX9_isSlide_0 3 rfl
theorem dX9_isSlide_8 : decode cX9_isSlide 8 = .ok (.iload_n 2, 1) := dget zdX9_isSlide_0 4 rfl
theorem dX9_isSlide_9 : decode cX9_isSlide 9 = .ok (.iconst 1, 1) := dget zdX9_isSlide_0 5 rfl
theorem dX9_isSlide_10 : decode cX9_isSlide 10 = .ok (.bipush 20, 2) := dget zdX9_isSlide_0 6 rfl
theorem dX9_isSlide_12 : decode cX9_isSlide 12 = .ok (.invokestatic 67, 3) := dget zdX9_isSlide_0 7 rfl
theorem dX9_isSlide_15 : decode cX9_isSlide 15 = .ok (.ifCond .eq 14, 3) := dget zdX9_isSlide_0 8 rfl
theorem dX9_isSlide_18 : decode cX9_isSlide 18 = .ok (.iload_n 3, 1) := dget zdX9_isSlide_0 9 rfl
theorem dX9_isSlide_19 : decode cX9_isSlide 19 = .ok (.invokestatic 75, 3) := dget zdX9_isSlide_0 10 rfl
theorem dX9_isSlide_22 : decode cX9_isSlide 22 = .ok (.ifCond .eq 7, 3) := dget zdX9_isSlide_0 11 rfl
theorem dX9_isSlide_25 : decode cX9_isSlide 25 = .ok (.iconst 1, 1) := dget zdX9_isSlide_0 12 rfl
theorem dX9_isSlide_26 : decode cX9_isSlide 26 = .ok (.goto 4, 3) := dget zdX9_isSlide_0 13 rfl
theorem dX9_isSlide_29 : decode cX9_isSlide 29 = .ok (.iconst 0, 1) := dget zdX9_isSlide_0 14 rfl
theorem dX9_isSlide_30 : decode cX9_isSlide 30 = .ok (.ireturn, 1) := dget zdX9_isSlide_0 15 rfl
theorem zdX9_write_0 : dchk cX9_write [(0, .iload_n 1, 1), (1, .bipush 32, 2), (3, .bipush 126, 2), (5, .invokestatic 67, 3), (8, .ifCond .ne 5, 3), (11, .iconst (-1), 1), (12, .ireturn, 1), (13, .aload_n 0, 1), (14, .getfield 78, 3), (17, .sipush 200, 3), (20, .if_icmp .ne 6, 3), (23, .bipush (-3), 2), (25, .ireturn, 1), (26, .aload_n 0, 1), (27, .getfield 25, 3), (30, .aload_n 0, 1), (31, .getfield 78, 3), (34, .iload_n 1, 1), (35, .iastore, 1), (36, .aload_n 0, 1), (37, .dup, 1), (38, .getfield 78, 3), (41, .iconst 1, 1), (42, .iadd, 1), (43, .putfield 78, 3), (46, .aload_n 0, 1), (47, .getfield 78, 3), (50, .ireturn, 1)] = true := by decide +kernel
theorem dX9_write_0 : decode cX9_write 0 = .ok (.iload_n 1, 1) := dget zdX9_write_0 0 rfl
theorem dX9_write_1 : decode cX9_write 1 = .ok (.bipush 32, 2) := dget zdX9_write_0 1 rfl
theorem dX9_write_3 : decode cX9_write 3 = .ok (.bipush 126, 2) := dget zdX9_write_0 2 rfl
theorem dX9_write_5 : decode cX9_write 5 = .ok (.invokestatic 67, 3) := dget zdX9_write_0 3 rfl
theorem dX9_write_8 : decode cX9_write 8 = .ok (.ifCond .ne 5, 3) := dget zdX9_write_0 4 rfl
theorem dX9_write_11 : decode cX9_write 11 = .ok (.iconst (-1), 1) := dget zdX9_write_0 5 rfl
theorem dX9_write_12 : decode cX9_write 12 = .ok (.ireturn, 1) := dget zdX9_write_0 6 rfl
theorem dX9_write_13 : decode cX9_write 13 = .ok (.aload_n 0, 1) := dget zdX9_write_0 7 rfl
theorem dX9_write_14 : decode cX9_write 14 = .ok (.getfield 78, 3) := dget zdX9_write_0 8 rfl
theorem dX9_write_17 : decode cX9_write 17 = .ok (.sipush 200, 3) := dget zdX9_write_0 9 rfl
theorem dX9_write_20 : decode cX9_write 20 = .ok (.if_icmp .ne 6, 3) := dget zdX9_write_0 10 rfl
theorem dX9_write_23 : decode cX9_write 23 = .ok (.bipush (-3), 2) := dget zdX9_write_0 11 rfl
theorem dX9_write_25 : decode cX9_write 25 = .ok (.ireturn, 1) := dget zdX9_write_0 12 rfl
theorem dX9_write_26 : decode cX9_write 26 = .ok (.aload_n 0, 1) := dget zdX9_write_0 13 rfl
theorem dX9_write_27 : decode cX9_write 27 = .ok (.getfield 25, 3) := dget zdX9_write_0 14 rfl
theorem dX9_write_30 : decode cX9_write 30 = .ok (.aload_n 0, 1) := dget zdX9_write_0 15 rfl
theorem dX9_write_31 : decode cX9_write 31 = .ok (.getfield 78, 3) := dget zdX9_write_0 16 rfl
theorem dX9_write_34 : decode cX9_write 34 = .ok (.iload_n 1, 1) := dget zdX9_write_0 17 rfl
theorem dX9_write_35 : decode cX9_write 35 = .ok (.iastore, 1) := dget zdX9_write_0 18 rfl
theorem dX9_write_36 : decode cX9_write 36 = .ok (.aload_n 0, 1) := dget zdX9_write_0 19 rfl
theorem dX9_write_37 : decode cX9_write 37 = .ok (.dup, 1) := dget zdX9_write_0 20 rfl
theorem dX9_write_38 : decode cX9_write 38 = .ok (.getfield 78, 3) := dget zdX9_write_0 21 rfl
theorem dX9_write_41 : decode cX9_write 41 = .ok (.iconst 1, 1) := dget zdX9_write_0 22 rfl
theorem dX9_write_42 : decode cX9_write 42 = .ok (.iadd, 1) := dget zdX9_write_0 23 rfl
theorem dX9_write_43 : decode cX9_write 43 = .ok (.putfield 78, 3) := dget zdX9_write_0 24 rfl
theorem dX9_write_46 : decode cX9_write 46 = .ok (.aload_n 0, 1) := dget zdX9_write_0 25 rfl
theorem dX9_write_47 : decode cX9_write 47 = .ok (.getfield 78, 3) := dget zdX9_write_0 26 rfl
theorem dX9_write_50 : decode cX9_write 50 = .ok (.ireturn, 1) := dget zdX9_write_0 27 rfl
theorem zdX9_wipe_0 : dchk cX9_wipe [(0, .aload_n 0, 1), (1, .getfield 78, 3), (4, .istore_n 1, 1), (5, .aload_n 0, 1), (6, .iconst 0, 1), (7, .putfield 78, 3), (10, .iload_n 1, 1), (11, .ireturn, 1)] = true := by decide +kernel
theorem dX9_wipe_0 : decode cX9_wipe 0 = .ok (.aload_n 0, 1) := dget zdX9_wipe_0 0 rfl
theorem dX9_wipe_1 : decode cX9_wipe 1 = .ok (.getfield 78, 3) := dget zdX9_wipe_0 1 rfl
theorem dX9_wipe_4 : decode cX9_wipe 4 = .ok (.istore_n 1, 1) := dget zdX9_wipe_0 2 rfl
theorem dX9_wipe_5 : decode cX9_wipe 5 = .ok (.aload_n 0, 1) := dget zdX9_wipe_0 3 rfl
theorem dX9_wipe_6 : decode cX9_wipe 6 = .ok (.iconst 0, 1) := dget zdX9_wipe_0 4 rfl
theorem dX9_wipe_7 : decode cX9_wipe 7 = .ok (.putfield 78, 3) := dget zdX9_wipe_0 5 rfl
theorem dX9_wipe_10 : decode cX9_wipe 10 = .ok (.iload_n 1, 1) := dget zdX9_wipe_0 6 rfl
theorem dX9_wipe_11 : decode cX9_wipe 11 = .ok (.ireturn, 1) := dget zdX9_wipe_0 7 rfl
theorem zdX9_here_0 : dchk cX9_here [(0, .aload_n 0, 1), (1, .getfield 81, 3), (4, .aload_n 0, 1), (5, .getfield 78, 3), (8, .if_icmp .ge 15, 3), (11, .aload_n 0, 1), (12, .getfield 25, 3), (15, .aload_n 0, 1), (16, .getfield 81, 3), (19, .iaload, 1), (20, .goto 4, 3), (23, .iconst 0, 1), (24, .ireturn, 1)] = true := by decide +kernel
theorem dX9_here_0 : decode cX9_here 0 = .ok (.aload_n 0, 1) := dget zdX9_here_0 0 rfl
theorem dX9_here_1 : decode cX9_here 1 = .ok (.getfield 81, 3) := dget zdX9_here_0 1 rfl
theorem dX9_here_4 : decode cX9_here 4 = .ok (.aload_n 0, 1) := dget zdX9_here_0 2 rfl
theorem dX9_here_5 : decode cX9_here 5 = .ok (.getfield 78, 3) := dget zdX9_here_0 3 rfl
theorem dX9_here_8 : decode cX9_here 8 = .ok (.if_icmp .ge 15, 3) := dget zdX9_here_0 4 rfl
theorem dX9_here_11 : decode cX9_here 11 = .ok (.aload_n 0, 1) := dget zdX9_here_0 5 rfl
theorem dX9_here_12 : decode cX9_here 12 = .ok (.getfield 25, 3) := dget zdX9_here_0 6 rfl
theorem dX9_here_15 : decode cX9_here 15 = .ok (.aload_n 0, 1) := dget zdX9_here_0 7 rfl
theorem dX9_here_16 : decode cX9_here 16 = .ok (.getfield 81, 3) := dget zdX9_here_0 8 rfl
theorem dX9_here_19 : decode cX9_here 19 = .ok (.iaload, 1) := dget zdX9_here_0 9 rfl
theorem dX9_here_20 : decode cX9_here 20 = .ok (.goto 4, 3) := dget zdX9_here_0 10 rfl
theorem dX9_here_23 : decode cX9_here 23 = .ok (.iconst 0, 1) := dget zdX9_here_0 11 rfl
theorem dX9_here_24 : decode cX9_here 24 = .ok (.ireturn, 1) := dget zdX9_here_0 12 rfl
theorem zdX9_isFigure_0 : dchk cX9_isFigure [(0, .aload_n 0, 1), (1, .invokevirtual 84, 3), (4, .bipush 48, 2), (6, .bipush 57, 2), (8, .invokestatic 67, 3), (11, .ireturn, 1)] = true := by decide +kernel
theorem dX9_isFigure_0 : decode cX9_isFigure 0 = .ok (.aload_n 0, 1) := dget zdX9_isFigure_0 0 rfl
theorem dX9_isFigure_1 : decode cX9_isFigure 1 = .ok (.invokevirtual 84, 3) := dget zdX9_isFigure_0 1 rfl
theorem dX9_isFigure_4 : decode cX9_isFigure 4 = .ok (.bipush 48, 2) := dget zdX9_isFigure_0 2 rfl
theorem dX9_isFigure_6 : decode cX9_isFigure 6 = .ok (.bipush 57, 2) := dget zdX9_isFigure_0 3 rfl
theorem dX9_isFigure_8 : decode cX9_isFigure 8 = .ok (.invokestatic 67, 3) := dget zdX9_isFigure_0 4 rfl
theorem dX9_isFigure_11 : decode cX9_isFigure 11 = .ok (.ireturn, 1) := dget zdX9_isFigure_0 5 rfl
theorem zdX9_number_0 : dchk cX9_number [(0, .aload_n 0, 1), (1, .invokevirtual 87, 3), (4, .ifCond .ne 5, 3), (7, .iconst 0, 1), (8, .ireturn, 1), (9, .aload_n 0, 1), (10, .invokevirtual 84, 3), (13, .bipush 48, 2), (15, .isub, 1), (16, .istore 4, 2), (18, .aload_n 0, 1), (19, .dup, 1), (20, .getfield 81, 3), (23, .iconst 1, 1), (24, .iadd, 1), (25, .putfield 81, 3), (28, .aload_n 0, 1), (29, .invokevirtual 87, 3), (32, .ifCond .eq 28, 3), (35, .bipush 10, 2), (37, .iload 4, 2), (39, .imul, 1), (40, .aload_n 0, 1), (41, .invokevirtual 84, 3), (44, .iadd, 1), (45, .bipush 48, 2), (47, .isub, 1), (48, .istore 4, 2), (50, .aload_n 0, 1), (51, .dup, 1), (52, .getfield 81, 3), (55, .iconst 1, 1), (56, .iadd, 1), (57, .putfield 81, 3), (60, .aload_n 0, 1), (61, .iload 4, 2), (63, .putfield 91, 3), (66, .aload_n 0, 1), (67, .invokevirtual 84, 3), (70, .iload_n 3, 1), (71, .if_icmp .ne 13, 3), (74, .iload 4, 2), (76, .iload_n 1, 1), (77, .iload_n 2, 1), (78, .invokestatic 67, 3), (81, .ifCond .ne 5, 3), (84, .iconst 0, 1), (85, .ireturn, 1), (86, .aload_n 0, 1), (87, .dup, 1), (88, .getfield 81, 3), (91, .iconst 1, 1), (92, .iadd, 1), (93, .putfield 81, 3), (96, .iconst 1, 1), (97, .ireturn, 1)] = true := by decide +kernel
theorem dX9_number_0 : decode cX9_number 0 = .ok (.aload_n 0, 1) := dget zdX9_number_0 0 rfl
theorem dX9_number_1 : decode cX9_number 1 = .ok (.invokevirtual 87, 3) := dget zdX9_number_0 1 rfl
theorem dX9_number_4 : decode cX9_number 4 = .ok (.ifCond .ne 5, 3) := dget zdX9_number_0 2 rfl
theorem dX9_number_7 : decode cX9_number 7 = .ok (.iconst 0, 1) := dget zdX9_number_0 3 rfl
theorem dX9_number_8 : decode cX9_number 8 = .ok (.ireturn, 1) := dget zdX9_number_0 4 rfl
theorem dX9_number_9 : decode cX9_number 9 = .ok (.aload_n 0, 1) := dget zdX9_number_0 5 rfl
theorem dX9_number_10 : decode cX9_number 10 = .ok (.invokevirtual 84, 3) := dget zdX9_number_0 6 rfl
theorem dX9_number_13 : decode cX9_number 13 = .ok (.bipush 48, 2) := dget zdX9_number_0 7 rfl
theorem dX9_number_15 : decode cX9_number 15 = .ok (.isub, 1) := dget zdX9_number_0 8 rfl
theorem dX9_number_16 : decode cX9_number 16 = .ok (.istore 4, 2) := dget zdX9_number_0 9 rfl
theorem dX9_number_18 : decode cX9_number 18 = .ok (.aload_n 0, 1) := dget zdX9_number_0 10 rfl
theorem dX9_number_19 : decode cX9_number 19 = .ok (.dup, 1) := dget zdX9_number_0 11 rfl
theorem dX9_number_20 : decode cX9_number 20 = .ok (.getfield 81, 3) := dget zdX9_number_0 12 rfl
theorem dX9_number_23 : decode cX9_number 23 = .ok (.iconst 1, 1) := dget zdX9_number_0 13 rfl
theorem dX9_number_24 : decode cX9_number 24 = .ok (.iadd, 1) := dget zdX9_number_0 14 rfl
theorem dX9_number_25 : decode cX9_number 25 = .ok (.putfield 81, 3) := dget zdX9_number_0 15 rfl
theorem dX9_number_28 : decode cX9_number 28 = .ok (.aload_n 0, 1) := dget zdX9_number_0 16 rfl
theorem dX9_number_29 : decode cX9_number 29 = .ok (.invokevirtual 87, 3) := dget zdX9_number_0 17 rfl
theorem dX9_number_32 : decode cX9_number 32 = .ok (.ifCond .eq 28, 3) := dget zdX9_number_0 18 rfl
theorem dX9_number_35 : decode cX9_number 35 = .ok (.bipush 10, 2) := dget zdX9_number_0 19 rfl
theorem dX9_number_37 : decode cX9_number 37 = .ok (.iload 4, 2) := dget zdX9_number_0 20 rfl
theorem dX9_number_39 : decode cX9_number 39 = .ok (.imul, 1) := dget zdX9_number_0 21 rfl
theorem dX9_number_40 : decode cX9_number 40 = .ok (.aload_n 0, 1) := dget zdX9_number_0 22 rfl
theorem dX9_number_41 : decode cX9_number 41 = .ok (.invokevirtual 84, 3) := dget zdX9_number_0 23 rfl
theorem dX9_number_44 : decode cX9_number 44 = .ok (.iadd, 1) := dget zdX9_number_0 24 rfl
theorem dX9_number_45 : decode cX9_number 45 = .ok (.bipush 48, 2) := dget zdX9_number_0 25 rfl
theorem dX9_number_47 : decode cX9_number 47 = .ok (.isub, 1) := dget zdX9_number_0 26 rfl
theorem dX9_number_48 : decode cX9_number 48 = .ok (.istore 4, 2) := dget zdX9_number_0 27 rfl
theorem dX9_number_50 : decode cX9_number 50 = .ok (.aload_n 0, 1) := dget zdX9_number_0 28 rfl
theorem dX9_number_51 : decode cX9_number 51 = .ok (.dup, 1) := dget zdX9_number_0 29 rfl
theorem dX9_number_52 : decode cX9_number 52 = .ok (.getfield 81, 3) := dget zdX9_number_0 30 rfl
theorem dX9_number_55 : decode cX9_number 55 = .ok (.iconst 1, 1) := dget zdX9_number_0 31 rfl
theorem dX9_number_56 : decode cX9_number 56 = .ok (.iadd, 1) := dget zdX9_number_0 32 rfl
theorem dX9_number_57 : decode cX9_number 57 = .ok (.putfield 81, 3) := dget zdX9_number_0 33 rfl
theorem dX9_number_60 : decode cX9_number 60 = .ok (.aload_n 0, 1) := dget zdX9_number_0 34 rfl
theorem dX9_number_61 : decode cX9_number 61 = .ok (.iload 4, 2) := dget zdX9_number_0 35 rfl
theorem dX9_number_63 : decode cX9_number 63 = .ok (.putfield 91, 3) := dget zdX9_number_0 36 rfl
theorem dX9_number_66 : decode cX9_number 66 = .ok (.aload_n 0, 1) := dget zdX9_number_0 37 rfl
theorem dX9_number_67 : decode cX9_number 67 = .ok (.invokevirtual 84, 3) := dget zdX9_number_0 38 rfl
theorem dX9_number_70 : decode cX9_number 70 = .ok (.iload_n 3, 1) := dget zdX9_number_0 39 rfl
theorem dX9_number_71 : decode cX9_number 71 = .ok (.if_icmp .ne 13, 3) := dget zdX9_number_0 40 rfl
theorem dX9_number_74 : decode cX9_number 74 = .ok (.iload 4, 2) := dget zdX9_number_0 41 rfl
theorem dX9_number_76 : decode cX9_number 76 = .ok (.iload_n 1, 1) := dget zdX9_number_0 42 rfl
theorem dX9_number_77 : decode cX9_number 77 = .ok (.iload_n 2, 1) := dget zdX9_number_0 43 rfl
theorem dX9_number_78 : decode cX9_number 78 = .ok (.invokestatic 67, 3) := dget zdX9_number_0 44 rfl
theorem dX9_number_81 : decode cX9_number 81 = .ok (.ifCond .ne 5, 3) := dget zdX9_number_0 45 rfl
theorem dX9_number_84 : decode cX9_number 84 = .ok (.iconst 0, 1) := dget zdX9_number_0 46 rfl
theorem dX9_number_85 : decode cX9_number 85 = .ok (.ireturn, 1) := dget zdX9_number_0 47 rfl
theorem dX9_number_86 : decode cX9_number 86 = .ok (.aload_n 0, 1) := dget zdX9_number_0 48 rfl
theorem dX9_number_87 : decode cX9_number 87 = .ok (.dup, 1) := dget zdX9_number_0 49 rfl
theorem dX9_number_88 : decode cX9_number 88 = .ok (.getfield 81, 3) := dget zdX9_number_0 50 rfl
theorem dX9_number_91 : decode cX9_number 91 = .ok (.iconst 1, 1) := dget zdX9_number_0 51 rfl
theorem dX9_number_92 : decode cX9_number 92 = .ok (.iadd, 1) := dget zdX9_number_0 52 rfl
theorem dX9_number_93 : decode cX9_number 93 = .ok (.putfield 81, 3) := dget zdX9_number_0 53 rfl
theorem dX9_number_96 : decode cX9_number 96 = .ok (.iconst 1, 1) := dget zdX9_number_0 54 rfl
theorem dX9_number_97 : decode cX9_number 97 = .ok (.ireturn, 1) := dget zdX9_number_0 55 rfl
theorem zdX9_readsRow_0 : dchk cX9_readsRow [(0, .aload_n 0, 1), (1, .getfield 94, 3), (4, .bipush 8, 2), (6, .if_icmp .ne 5, 3), (9, .iconst 0, 1), (10, .ireturn, 1), (11, .aload_n 0, 1), (12, .getfield 94, 3), (15, .ifCond .ne 8, 3), (18, .bipush 6, 2), (20, .goto 7, 3), (23, .aload_n 0, 1), (24, .getfield 97, 3), (27, .istore_n 1, 1), (28, .iconst 0, 1), (29, .istore_n 2, 1), (30, .iload_n 2, 1), (31, .iload_n 1, 1), (32, .if_icmp .ge 53, 3), (35, .aload_n 0, 1), (36, .invokevirtual 84, 3), (39, .bipush 48, 2), (41, .bipush 51, 2), (43, .invokestatic 67, 3), (46, .ifCond .eq 39, 3), (49, .aload_n 0, 1), (50, .getfield 28, 3), (53, .iload_n 1, 1), (54, .aload_n 0, 1), (55, .getfield 94, 3), (58, .imul, 1), (59, .iload_n 2, 1), (60, .iadd, 1), (61, .aload_n 0, 1), (62, .invokevirtual 84, 3), (65, .bipush 48, 2), (67, .isub, 1), (68, .iastore, 1), (69, .aload_n 0, 1), (70, .dup, 1), (71, .getfield 81, 3), (74, .iconst 1, 1), (75, .iadd, 1), (76, .putfield 81, 3), (79, .iinc 2 1, 3), (82, .goto (-52), 3), (85, .iload_n 2, 1), (86, .iconst 2, 1), (87, .if_icmp .lt 27, 3), (90, .aload_n 0, 1), (91, .getfield 94, 3), (94, .ifCond .le 11, 3), (97, .iload_n 2, 1), (98, .aload_n 0, 1), (99, .getfield 97, 3), (102, .if_icmp .ne 12, 3), (105, .aload_n 0, 1), (106, .invokevirtual 84, 3), (109, .bipush 59, 2), (111, .if_icmp .eq 5, 3), (114, .iconst 0, 1), (115, .ireturn, 1), (116, .aload_n 0, 1), (117, .dup, 1), (118, .getfield 81, 3), (121, .iconst 1, 1), (122, .iadd, 1), (123, .putfield 81, 3), (126, .aload_n 0, 1), (127, .iload_n 2, 1), (128, .putfield 97, 3), (131, .iconst 0, 1), (132, .istore_n 3, 1), (133, .iload_n 3, 1), (134, .iload_n 2, 1), (135, .if_icmp .ge 24, 3), (138, .aload_n 0, 1), (139, .getfield 31, 3), (142, .iload_n 2, 1), (143, .aload_n 0, 1), (144, .getfield 94, 3), (147, .imul, 1), (148, .iload_n 3, 1), (149, .iadd, 1), (150, .bipush (-4), 2), (152, .iastore, 1), (153, .iinc 3 1, 3), (156, .goto (-23), 3), (159, .aload_n 0, 1), (160, .dup, 1), (161, .getfield 94, 3), (164, .iconst 1, 1), (165, .iadd, 1), (166, .putfield 94, 3), (169, .iconst 1, 1), (170, .ireturn, 1)] = true := by decide +kernel
theorem dX9_readsRow_0 : decode cX9_readsRow 0 = .ok (.aload_n 0, 1) := dget zdX9_readsRow_0 0 rfl
theorem dX9_readsRow_1 : decode cX9_readsRow 1 = .ok (.getfield 94, 3) := dget zdX9_readsRow_0 1 rfl
theorem dX9_readsRow_4 : decode cX9_readsRow 4 = .ok (.bipush 8, 2) := dget zdX9_readsRow_0 2 rfl
theorem dX9_readsRow_6 : decode cX9_readsRow 6 = .ok (.if_icmp .ne 5, 3) := dget zdX9_readsRow_0 3 rfl
theorem dX9_readsRow_9 : decode cX9_readsRow 9 = .ok (.iconst 0, 1) := dget zdX9_readsRow_0 4 rfl
theorem dX9_readsRow_10 : decode cX9_readsRow 10 = .ok (.ireturn, 1) := dget zdX9_readsRow_0 5 rfl
theorem dX9_readsRow_11 : decode cX9_readsRow 11 = .ok (.aload_n 0, 1) := dget zdX9_readsRow_0 6 rfl
theorem dX9_readsRow_12 : decode cX9_readsRow 12 = .ok (.getfield 94, 3) := dget zdX9_readsRow_0 7 rfl
theorem dX9_readsRow_15 : decode cX9_readsRow 15 = .ok (.ifCond .ne 8, 3) := dget zdX9_readsRow_0 8 rfl
theorem dX9_readsRow_18 : decode cX9_readsRow 18 = .ok (.bipush 6, 2) := dget zdX9_readsRow_0 9 rfl
theorem dX9_readsRow_20 : decode cX9_readsRow 20 = .ok (.goto 7, 3) := dget zdX9_readsRow_0 10 rfl
theorem dX9_readsRow_23 : decode cX9_readsRow 23 = .ok (.aload_n 0, 1) := dget zdX9_readsRow_0 11 rfl
theorem dX9_readsRow_24 : decode cX9_readsRow 24 = .ok (.getfield 97, 3) := dget zdX9_readsRow_0 12 rfl
theorem dX9_readsRow_27 : decode cX9_readsRow 27 = .ok (.istore_n 1, 1) := dget zdX9_readsRow_0 13 rfl
theorem dX9_readsRow_28 : decode cX9_readsRow 28 = .ok (.iconst 0, 1) := dget zdX9_readsRow_0 14 rfl
theorem dX9_readsRow_29 : decode cX9_readsRow 29 = .ok (.istore_n 2, 1) := dget zdX9_readsRow_0 15 rfl
theorem dX9_readsRow_30 : decode cX9_readsRow 30 = .ok (.iload_n 2, 1) := dget zdX9_readsRow_0 16 rfl
theorem dX9_readsRow_31 : decode cX9_readsRow 31 = .ok (.iload_n 1, 1) := dget zdX9_readsRow_0 17 rfl
theorem dX9_readsRow_32 : decode cX9_readsRow 32 = .ok (.if_icmp .ge 53, 3) := dget zdX9_readsRow_0 18 rfl
theorem dX9_readsRow_35 : decode cX9_readsRow 35 = .ok (.aload_n 0, 1) := dget zdX9_readsRow_0 19 rfl
theorem dX9_readsRow_36 : decode cX9_readsRow 36 = .ok (.invokevirtual 84, 3) := dget zdX9_readsRow_0 20 rfl
theorem dX9_readsRow_39 : decode cX9_readsRow 39 = .ok (.bipush 48, 2) := dget zdX9_readsRow_0 21 rfl
theorem dX9_readsRow_41 : decode cX9_readsRow 41 = .ok (.bipush 51, 2) := dget zdX9_readsRow_0 22 rfl
theorem dX9_readsRow_43 : decode cX9_readsRow 43 = .ok (.invokestatic 67, 3) := dget zdX9_readsRow_0 23 rfl
theorem dX9_readsRow_46 : decode cX9_readsRow 46 = .ok (.ifCond .eq 39, 3) := dget zdX9_readsRow_0 24 rfl
theorem dX9_readsRow_49 : decode cX9_readsRow 49 = .ok (.aload_n 0, 1) := dget zdX9_readsRow_0 25 rfl
theorem dX9_readsRow_50 : decode cX9_readsRow 50 = .ok (.getfield 28, 3) := dget zdX9_readsRow_0 26 rfl
theorem dX9_readsRow_53 : decode cX9_readsRow 53 = .ok (.iload_n 1, 1) := dget zdX9_readsRow_0 27 rfl
theorem dX9_readsRow_54 : decode cX9_readsRow 54 = .ok (.aload_n 0, 1) := dget zdX9_readsRow_0 28 rfl
theorem dX9_readsRow_55 : decode cX9_readsRow 55 = .ok (.getfield 94, 3) := dget zdX9_readsRow_0 29 rfl
theorem dX9_readsRow_58 : decode cX9_readsRow 58 = .ok (.imul, 1) := dget zdX9_readsRow_0 30 rfl
theorem dX9_readsRow_59 : decode cX9_readsRow 59 = .ok (.iload_n 2, 1) := dget zdX9_readsRow_0 31 rfl
theorem dX9_readsRow_60 : decode cX9_readsRow 60 = .ok (.iadd, 1) := dget zdX9_readsRow_0 32 rfl
theorem dX9_readsRow_61 : decode cX9_readsRow 61 = .ok (.aload_n 0, 1) := dget zdX9_readsRow_0 33 rfl
theorem dX9_readsRow_62 : decode cX9_readsRow 62 = .ok (.invokevirtual 84, 3) := dget zdX9_readsRow_0 34 rfl
theorem dX9_readsRow_65 : decode cX9_readsRow 65 = .ok (.bipush 48, 2) := dget zdX9_readsRow_0 35 rfl
theorem dX9_readsRow_67 : decode cX9_readsRow 67 = .ok (.isub, 1) := dget zdX9_readsRow_0 36 rfl
theorem dX9_readsRow_68 : decode cX9_readsRow 68 = .ok (.iastore, 1) := dget zdX9_readsRow_0 37 rfl
theorem dX9_readsRow_69 : decode cX9_readsRow 69 = .ok (.aload_n 0, 1) := dget zdX9_readsRow_0 38 rfl
theorem dX9_readsRow_70 : decode cX9_readsRow 70 = .ok (.dup, 1) := dget zdX9_readsRow_0 39 rfl
theorem dX9_readsRow_71 : decode cX9_readsRow 71 = .ok (.getfield 81, 3) := dget zdX9_readsRow_0 40 rfl
theorem dX9_readsRow_74 : decode cX9_readsRow 74 = .ok (.iconst 1, 1) := dget zdX9_readsRow_0 41 rfl
theorem dX9_readsRow_75 : decode cX9_readsRow 75 = .ok (.iadd, 1) := dget zdX9_readsRow_0 42 rfl
theorem dX9_readsRow_76 : decode cX9_readsRow 76 = .ok (.putfield 81, 3) := dget zdX9_readsRow_0 43 rfl
theorem dX9_readsRow_79 : decode cX9_readsRow 79 = .ok (.iinc 2 1, 3) := dget zdX9_readsRow_0 44 rfl
theorem dX9_readsRow_82 : decode cX9_readsRow 82 = .ok (.goto (-52), 3) := dget zdX9_readsRow_0 45 rfl
theorem dX9_readsRow_85 : decode cX9_readsRow 85 = .ok (.iload_n 2, 1) := dget zdX9_readsRow_0 46 rfl
theorem dX9_readsRow_86 : decode cX9_readsRow 86 = .ok (.iconst 2, 1) := dget zdX9_readsRow_0 47 rfl
theorem dX9_readsRow_87 : decode cX9_readsRow 87 = .ok (.if_icmp .lt 27, 3) := dget zdX9_readsRow_0 48 rfl
theorem dX9_readsRow_90 : decode cX9_readsRow 90 = .ok (.aload_n 0, 1) := dget zdX9_readsRow_0 49 rfl
theorem dX9_readsRow_91 : decode cX9_readsRow 91 = .ok (.getfield 94, 3) := dget zdX9_readsRow_0 50 rfl
theorem dX9_readsRow_94 : decode cX9_readsRow 94 = .ok (.ifCond .le 11, 3) := dget zdX9_readsRow_0 51 rfl
theorem dX9_readsRow_97 : decode cX9_readsRow 97 = .ok (.iload_n 2, 1) := dget zdX9_readsRow_0 52 rfl
theorem dX9_readsRow_98 : decode cX9_readsRow 98 = .ok (.aload_n 0, 1) := dget zdX9_readsRow_0 53 rfl
theorem dX9_readsRow_99 : decode cX9_readsRow 99 = .ok (.getfield 97, 3) := dget zdX9_readsRow_0 54 rfl
theorem dX9_readsRow_102 : decode cX9_readsRow 102 = .ok (.if_icmp .ne 12, 3) := dget zdX9_readsRow_0 55 rfl
theorem dX9_readsRow_105 : decode cX9_readsRow 105 = .ok (.aload_n 0, 1) := dget zdX9_readsRow_0 56 rfl
theorem dX9_readsRow_106 : decode cX9_readsRow 106 = .ok (.invokevirtual 84, 3) := dget zdX9_readsRow_0 57 rfl
theorem dX9_readsRow_109 : decode cX9_readsRow 109 = .ok (.bipush 59, 2) := dget zdX9_readsRow_0 58 rfl
theorem dX9_readsRow_111 : decode cX9_readsRow 111 = .ok (.if_icmp .eq 5, 3) := dget zdX9_readsRow_0 59 rfl
theorem dX9_readsRow_114 : decode cX9_readsRow 114 = .ok (.iconst 0, 1) := dget zdX9_readsRow_0 60 rfl
theorem dX9_readsRow_115 : decode cX9_readsRow 115 = .ok (.ireturn, 1) := dget zdX9_readsRow_0 61 rfl
theorem dX9_readsRow_116 : decode cX9_readsRow 116 = .ok (.aload_n 0, 1) := dget zdX9_readsRow_0 62 rfl
theorem dX9_readsRow_117 : decode cX9_readsRow 117 = .ok (.dup, 1) := dget zdX9_readsRow_0 63 rfl
theorem dX9_readsRow_118 : decode cX9_readsRow 118 = .ok (.getfield 81, 3) := dget zdX9_readsRow_0 64 rfl
theorem dX9_readsRow_121 : decode cX9_readsRow 121 = .ok (.iconst 1, 1) := dget zdX9_readsRow_0 65 rfl
theorem dX9_readsRow_122 : decode cX9_readsRow 122 = .ok (.iadd, 1) := dget zdX9_readsRow_0 66 rfl
theorem dX9_readsRow_123 : decode cX9_readsRow 123 = .ok (.putfield 81, 3) := dget zdX9_readsRow_0 67 rfl
theorem dX9_readsRow_126 : decode cX9_readsRow 126 = .ok (.aload_n 0, 1) := dget zdX9_readsRow_0 68 rfl
theorem dX9_readsRow_127 : decode cX9_readsRow 127 = .ok (.iload_n 2, 1) := dget zdX9_readsRow_0 69 rfl
theorem dX9_readsRow_128 : decode cX9_readsRow 128 = .ok (.putfield 97, 3) := dget zdX9_readsRow_0 70 rfl
theorem dX9_readsRow_131 : decode cX9_readsRow 131 = .ok (.iconst 0, 1) := dget zdX9_readsRow_0 71 rfl
theorem dX9_readsRow_132 : decode cX9_readsRow 132 = .ok (.istore_n 3, 1) := dget zdX9_readsRow_0 72 rfl
theorem dX9_readsRow_133 : decode cX9_readsRow 133 = .ok (.iload_n 3, 1) := dget zdX9_readsRow_0 73 rfl
theorem dX9_readsRow_134 : decode cX9_readsRow 134 = .ok (.iload_n 2, 1) := dget zdX9_readsRow_0 74 rfl
theorem dX9_readsRow_135 : decode cX9_readsRow 135 = .ok (.if_icmp .ge 24, 3) := dget zdX9_readsRow_0 75 rfl
theorem dX9_readsRow_138 : decode cX9_readsRow 138 = .ok (.aload_n 0, 1) := dget zdX9_readsRow_0 76 rfl
theorem dX9_readsRow_139 : decode cX9_readsRow 139 = .ok (.getfield 31, 3) := dget zdX9_readsRow_0 77 rfl
theorem dX9_readsRow_142 : decode cX9_readsRow 142 = .ok (.iload_n 2, 1) := dget zdX9_readsRow_0 78 rfl
theorem dX9_readsRow_143 : decode cX9_readsRow 143 = .ok (.aload_n 0, 1) := dget zdX9_readsRow_0 79 rfl
theorem dX9_readsRow_144 : decode cX9_readsRow 144 = .ok (.getfield 94, 3) := dget zdX9_readsRow_0 80 rfl
theorem dX9_readsRow_147 : decode cX9_readsRow 147 = .ok (.imul, 1) := dget zdX9_readsRow_0 81 rfl
theorem dX9_readsRow_148 : decode cX9_readsRow 148 = .ok (.iload_n 3, 1) := dget zdX9_readsRow_0 82 rfl
theorem dX9_readsRow_149 : decode cX9_readsRow 149 = .ok (.iadd, 1) := dget zdX9_readsRow_0 83 rfl
theorem dX9_readsRow_150 : decode cX9_readsRow 150 = .ok (.bipush (-4), 2) := dget zdX9_readsRow_0 84 rfl
theorem dX9_readsRow_152 : decode cX9_readsRow 152 = .ok (.iastore, 1) := dget zdX9_readsRow_0 85 rfl
theorem dX9_readsRow_153 : decode cX9_readsRow 153 = .ok (.iinc 3 1, 3) := dget zdX9_readsRow_0 86 rfl
theorem dX9_readsRow_156 : decode cX9_readsRow 156 = .ok (.goto (-23), 3) := dget zdX9_readsRow_0 87 rfl
theorem dX9_readsRow_159 : decode cX9_readsRow 159 = .ok (.aload_n 0, 1) := dget zdX9_readsRow_0 88 rfl
theorem dX9_readsRow_160 : decode cX9_readsRow 160 = .ok (.dup, 1) := dget zdX9_readsRow_0 89 rfl
theorem dX9_readsRow_161 : decode cX9_readsRow 161 = .ok (.getfield 94, 3) := dget zdX9_readsRow_0 90 rfl
theorem dX9_readsRow_164 : decode cX9_readsRow 164 = .ok (.iconst 1, 1) := dget zdX9_readsRow_0 91 rfl
theorem dX9_readsRow_165 : decode cX9_readsRow 165 = .ok (.iadd, 1) := dget zdX9_readsRow_0 92 rfl
theorem dX9_readsRow_166 : decode cX9_readsRow 166 = .ok (.putfield 94, 3) := dget zdX9_readsRow_0 93 rfl
theorem dX9_readsRow_169 : decode cX9_readsRow 169 = .ok (.iconst 1, 1) := dget zdX9_readsRow_0 94 rfl
theorem dX9_readsRow_170 : decode cX9_readsRow 170 = .ok (.ireturn, 1) := dget zdX9_readsRow_0 95 rfl
theorem zdX9_readsOwner_0 : dchk cX9_readsOwner [(0, .aload_n 0, 1), (1, .iconst 0, 1), (2, .aload_n 0, 1), (3, .getfield 94, 3), (6, .aload_n 0, 1), (7, .getfield 97, 3), (10, .imul, 1), (11, .iconst 1, 1), (12, .isub, 1), (13, .bipush 44, 2), (15, .invokevirtual 100, 3), (18, .ifCond .ne 5, 3), (21, .iconst 0, 1), (22, .ireturn, 1), (23, .aload_n 0, 1), (24, .getfield 91, 3), (27, .istore_n 1, 1), (28, .aload_n 0, 1), (29, .iconst 0, 1), (30, .iconst 3, 1), (31, .bipush 59, 2), (33, .invokevirtual 100, 3), (36, .ifCond .ne 5, 3), (39, .iconst 0, 1), (40, .ireturn, 1), (41, .aload_n 0, 1), (42, .getfield 31, 3), (45, .iload_n 1, 1), (46, .aload_n 0, 1), (47, .getfield 91, 3), (50, .iastore, 1), (51, .iconst 1, 1), (52, .ireturn, 1)] = true := by decide +kernel
theorem dX9_readsOwner_0 : decode cX9_readsOwner 0 = .ok (.aload_n 0, 1) := dget zdX9_readsOwner_0 0 rfl
theorem dX9_readsOwner_1 : decode cX9_readsOwner 1 = .ok (.iconst 0, 1) := dget zdX9_readsOwner_0 1 rfl
theorem dX9_readsOwner_2 : decode cX9_readsOwner 2 = .ok (.aload_n 0, 1) := dget zdX9_readsOwner_0 2 rfl
theorem dX9_readsOwner_3 : decode cX9_readsOwner 3 = .ok (.getfield 94, 3) := dget zdX9_readsOwner_0 3 rfl
theorem dX9_readsOwner_6 : decode cX9_readsOwner 6 = .ok (.aload_n 0, 1) := dget zdX9_readsOwner_0 4 rfl
theorem dX9_readsOwner_7 : decode cX9_readsOwner 7 = .ok (.getfield 97, 3) := dget zdX9_readsOwner_0 5 rfl
theorem dX9_readsOwner_10 : decode cX9_readsOwner 10 = .ok (.imul, 1) := dget zdX9_readsOwner_0 6 rfl
theorem dX9_readsOwner_11 : decode cX9_readsOwner 11 = .ok (.iconst 1, 1) := dget zdX9_readsOwner_0 7 rfl
theorem dX9_readsOwner_12 : decode cX9_readsOwner 12 = .ok (.isub, 1) := dget zdX9_readsOwner_0 8 rfl
theorem dX9_readsOwner_13 : decode cX9_readsOwner 13 = .ok (.bipush 44, 2) := dget zdX9_readsOwner_0 9 rfl
theorem dX9_readsOwner_15 : decode cX9_readsOwner 15 = .ok (.invokevirtual 100, 3) := dget zdX9_readsOwner_0 10 rfl
theorem dX9_readsOwner_18 : decode cX9_readsOwner 18 = .ok (.ifCond .ne 5, 3) := dget zdX9_readsOwner_0 11 rfl
theorem dX9_readsOwner_21 : decode cX9_readsOwner 21 = .ok (.iconst 0, 1) := dget zdX9_readsOwner_0 12 rfl
theorem dX9_readsOwner_22 : decode cX9_readsOwner 22 = .ok (.ireturn, 1) := dget zdX9_readsOwner_0 13 rfl
theorem dX9_readsOwner_23 : decode cX9_readsOwner 23 = .ok (.aload_n 0, 1) := dget zdX9_readsOwner_0 14 rfl
theorem dX9_readsOwner_24 : decode cX9_readsOwner 24 = .ok (.getfield 91, 3) := dget zdX9_readsOwner_0 15 rfl
theorem dX9_readsOwner_27 : decode cX9_readsOwner 27 = .ok (.istore_n 1, 1) := dget zdX9_readsOwner_0 16 rfl
theorem dX9_readsOwner_28 : decode cX9_readsOwner 28 = .ok (.aload_n 0, 1) := dget zdX9_readsOwner_0 17 rfl
theorem dX9_readsOwner_29 : decode cX9_readsOwner 29 = .ok (.iconst 0, 1) := dget zdX9_readsOwner_0 18 rfl
theorem dX9_readsOwner_30 : decode cX9_readsOwner 30 = .ok (.iconst 3, 1) := dget zdX9_readsOwner_0 19 rfl
theorem dX9_readsOwner_31 : decode cX9_readsOwner 31 = .ok (.bipush 59, 2) := dget zdX9_readsOwner_0 20 rfl
theorem dX9_readsOwner_33 : decode cX9_readsOwner 33 = .ok (.invokevirtual 100, 3) := dget zdX9_readsOwner_0 21 rfl
theorem dX9_readsOwner_36 : decode cX9_readsOwner 36 = .ok (.ifCond .ne 5, 3) := dget zdX9_readsOwner_0 22 rfl
theorem dX9_readsOwner_39 : decode cX9_readsOwner 39 = .ok (.iconst 0, 1) := dget zdX9_readsOwner_0 23 rfl
theorem dX9_readsOwner_40 : decode cX9_readsOwner 40 = .ok (.ireturn, 1) := dget zdX9_readsOwner_0 24 rfl
theorem dX9_readsOwner_41 : decode cX9_readsOwner 41 = .ok (.aload_n 0, 1) := dget zdX9_readsOwner_0 25 rfl
theorem dX9_readsOwner_42 : decode cX9_readsOwner 42 = .ok (.getfield 31, 3) := dget zdX9_readsOwner_0 26 rfl
theorem dX9_readsOwner_45 : decode cX9_readsOwner 45 = .ok (.iload_n 1, 1) := dget zdX9_readsOwner_0 27 rfl
theorem dX9_readsOwner_46 : decode cX9_readsOwner 46 = .ok (.aload_n 0, 1) := dget zdX9_readsOwner_0 28 rfl
theorem dX9_readsOwner_47 : decode cX9_readsOwner 47 = .ok (.getfield 91, 3) := dget zdX9_readsOwner_0 29 rfl
theorem dX9_readsOwner_50 : decode cX9_readsOwner 50 = .ok (.iastore, 1) := dget zdX9_readsOwner_0 30 rfl
theorem dX9_readsOwner_51 : decode cX9_readsOwner 51 = .ok (.iconst 1, 1) := dget zdX9_readsOwner_0 31 rfl
theorem dX9_readsOwner_52 : decode cX9_readsOwner 52 = .ok (.ireturn, 1) := dget zdX9_readsOwner_0 32 rfl
theorem zdX9_readsItem_0 : dchk cX9_readsItem [(0, .aload_n 0, 1), (1, .invokevirtual 84, 3), (4, .istore_n 1, 1), (5, .aload_n 0, 1), (6, .dup, 1), (7, .getfield 81, 3), (10, .iconst 1, 1), (11, .iadd, 1), (12, .putfield 81, 3), (15, .iload_n 1, 1), (16, .bipush 114, 2), (18, .if_icmp .ne 10, 3), (21, .aload_n 0, 1), (22, .invokevirtual 103, 3), (25, .goto 21, 3), (28, .iload_n 1, 1), (29, .bipush 111, 2), (31, .if_icmp .ne 14, 3), (34, .aload_n 0, 1), (35, .invokevirtual 106, 3), (38, .ifCond .eq 7, 3), (41, .iconst 1, 1), (42, .goto 4, 3), (45, .iconst 0, 1), (46, .ireturn, 1)] = true := by decide +kernel
theorem dX9_readsItem_0 : decode cX9_readsItem 0 = .ok (.aload_n 0, 1) := dget zdX9_readsItem_0 0 rfl
theorem dX9_readsItem_1 : decode cX9_readsItem 1 = .ok (.invokevirtual 84, 3) := dget zdX9_readsItem_0 1 rfl
theorem dX9_readsItem_4 : decode cX9_readsItem 4 = .ok (.istore_n 1, 1) := dget zdX9_readsItem_0 2 rfl
theorem dX9_readsItem_5 : decode cX9_readsItem 5 = .ok (.aload_n 0, 1) := dget zdX9_readsItem_0 3 rfl
theorem dX9_readsItem_6 : decode cX9_readsItem 6 = .ok (.dup, 1) := dget zdX9_readsItem_0 4 rfl
theorem dX9_readsItem_7 : decode cX9_readsItem 7 = .ok (.getfield 81, 3) := dget zdX9_readsItem_0 5 rfl
theorem dX9_readsItem_10 : decode cX9_readsItem 10 = .ok (.iconst 1, 1) := dget zdX9_readsItem_0 6 rfl
theorem dX9_readsItem_11 : decode cX9_readsItem 11 = .ok (.iadd, 1) := dget zdX9_readsItem_0 7 rfl
theorem dX9_readsItem_12 : decode cX9_readsItem 12 = .ok (.putfield 81, 3) := dget zdX9_readsItem_0 8 rfl
theorem dX9_readsItem_15 : decode cX9_readsItem 15 = .ok (.iload_n 1, 1) := dget zdX9_readsItem_0 9 rfl
theorem dX9_readsItem_16 : decode cX9_readsItem 16 = .ok (.bipush 114, 2) := dget zdX9_readsItem_0 10 rfl
theorem dX9_readsItem_18 : decode cX9_readsItem 18 = .ok (.if_icmp .ne 10, 3) := dget zdX9_readsItem_0 11 rfl
theorem dX9_readsItem_21 : decode cX9_readsItem 21 = .ok (.aload_n 0, 1) := dget zdX9_readsItem_0 12 rfl
theorem dX9_readsItem_22 : decode cX9_readsItem 22 = .ok (.invokevirtual 103, 3) := dget zdX9_readsItem_0 13 rfl
theorem dX9_readsItem_25 : decode cX9_readsItem 25 = .ok (.goto 21, 3) := dget zdX9_readsItem_0 14 rfl
theorem dX9_readsItem_28 : decode cX9_readsItem 28 = .ok (.iload_n 1, 1) := dget zdX9_readsItem_0 15 rfl
theorem dX9_readsItem_29 : decode cX9_readsItem 29 = .ok (.bipush 111, 2) := dget zdX9_readsItem_0 16 rfl
theorem dX9_readsItem_31 : decode cX9_readsItem 31 = .ok (.if_icmp .ne 14, 3) := dget zdX9_readsItem_0 17 rfl
theorem dX9_readsItem_34 : decode cX9_readsItem 34 = .ok (.aload_n 0, 1) := dget zdX9_readsItem_0 18 rfl
theorem dX9_readsItem_35 : decode cX9_readsItem 35 = .ok (.invokevirtual 106, 3) := dget zdX9_readsItem_0 19 rfl
theorem dX9_readsItem_38 : decode cX9_readsItem 38 = .ok (.ifCond .eq 7, 3) := dget zdX9_readsItem_0 20 rfl
theorem dX9_readsItem_41 : decode cX9_readsItem 41 = .ok (.iconst 1, 1) := dget zdX9_readsItem_0 21 rfl
theorem dX9_readsItem_42 : decode cX9_readsItem 42 = .ok (.goto 4, 3) := dget zdX9_readsItem_0 22 rfl
theorem dX9_readsItem_45 : decode cX9_readsItem 45 = .ok (.iconst 0, 1) := dget zdX9_readsItem_0 23 rfl
theorem dX9_readsItem_46 : decode cX9_readsItem 46 = .ok (.ireturn, 1) := dget zdX9_readsItem_0 24 rfl
theorem zdX9_fault_0 : dchk cX9_fault [(0, .aload_n 0, 1), (1, .iconst 0, 1), (2, .putfield 81, 3), (5, .aload_n 0, 1), (6, .iconst 0, 1), (7, .putfield 94, 3), (10, .aload_n 0, 1), (11, .iconst 0, 1), (12, .putfield 97, 3), (15, .aload_n 0, 1), (16, .getfield 81, 3), (19, .aload_n 0, 1), (20, .getfield 78, 3), (23, .if_icmp .ge 20, 3), (26, .aload_n 0, 1), (27, .getfield 81, 3), (30, .istore_n 1, 1), (31, .aload_n 0, 1), (32, .invokevirtual 109, 3), (35, .ifCond .ne 5, 3), (38, .iload_n 1, 1), (39, .ireturn, 1), (40, .goto (-25), 3), (43, .bipush (-4), 2), (45, .ireturn, 1)] = true := by decide +kernel
theorem dX9_fault_0 : decode cX9_fault 0 = .ok (.aload_n 0, 1) := dget zdX9_fault_0 0 rfl
theorem dX9_fault_1 : decode cX9_fault 1 = .ok (.iconst 0, 1) := dget zdX9_fault_0 1 rfl
theorem dX9_fault_2 : decode cX9_fault 2 = .ok (.putfield 81, 3) := dget zdX9_fault_0 2 rfl
theorem dX9_fault_5 : decode cX9_fault 5 = .ok (.aload_n 0, 1) := dget zdX9_fault_0 3 rfl
theorem dX9_fault_6 : decode cX9_fault 6 = .ok (.iconst 0, 1) := dget zdX9_fault_0 4 rfl
theorem dX9_fault_7 : decode cX9_fault 7 = .ok (.putfield 94, 3) := dget zdX9_fault_0 5 rfl
theorem dX9_fault_10 : decode cX9_fault 10 = .ok (.aload_n 0, 1) := dget zdX9_fault_0 6 rfl
theorem dX9_fault_11 : decode cX9_fault 11 = .ok (.iconst 0, 1) := dget zdX9_fault_0 7 rfl
theorem dX9_fault_12 : decode cX9_fault 12 = .ok (.putfield 97, 3) := dget zdX9_fault_0 8 rfl
theorem dX9_fault_15 : decode cX9_fault 15 = .ok (.aload_n 0, 1) := dget zdX9_fault_0 9 rfl
theorem dX9_fault_16 : decode cX9_fault 16 = .ok (.getfield 81, 3) := dget zdX9_fault_0 10 rfl
theorem dX9_fault_19 : decode cX9_fault 19 = .ok (.aload_n 0, 1) := dget zdX9_fault_0 11 rfl
theorem dX9_fault_20 : decode cX9_fault 20 = .ok (.getfield 78, 3) := dget zdX9_fault_0 12 rfl
theorem dX9_fault_23 : decode cX9_fault 23 = .ok (.if_icmp .ge 20, 3) := dget zdX9_fault_0 13 rfl
theorem dX9_fault_26 : decode cX9_fault 26 = .ok (.aload_n 0, 1) := dget zdX9_fault_0 14 rfl
theorem dX9_fault_27 : decode cX9_fault 27 = .ok (.getfield 81, 3) := dget zdX9_fault_0 15 rfl
theorem dX9_fault_30 : decode cX9_fault 30 = .ok (.istore_n 1, 1) := dget zdX9_fault_0 16 rfl
theorem dX9_fault_31 : decode cX9_fault 31 = .ok (.aload_n 0, 1) := dget zdX9_fault_0 17 rfl
theorem dX9_fault_32 : decode cX9_fault 32 = .ok (.invokevirtual 109, 3) := dget zdX9_fault_0 18 rfl
theorem dX9_fault_35 : decode cX9_fault 35 = .ok (.ifCond .ne 5, 3) := dget zdX9_fault_0 19 rfl
theorem dX9_fault_38 : decode cX9_fault 38 = .ok (.iload_n 1, 1) := dget zdX9_fault_0 20 rfl
theorem dX9_fault_39 : decode cX9_fault 39 = .ok (.ireturn, 1) := dget zdX9_fault_0 21 rfl
theorem dX9_fault_40 : decode cX9_fault 40 = .ok (.goto (-25), 3) := dget zdX9_fault_0 22 rfl
theorem dX9_fault_43 : decode cX9_fault 43 = .ok (.bipush (-4), 2) := dget zdX9_fault_0 23 rfl
theorem dX9_fault_45 : decode cX9_fault 45 = .ok (.ireturn, 1) := dget zdX9_fault_0 24 rfl
theorem zdX9_lay_0 : dchk cX9_lay [(0, .aload_n 0, 1), (1, .invokevirtual 112, 3), (4, .bipush (-4), 2), (6, .if_icmp .ne 11, 3), (9, .aload_n 0, 1), (10, .getfield 94, 3), (13, .iconst 2, 1), (14, .if_icmp .ge 6, 3), (17, .bipush (-2), 2), (19, .ireturn, 1), (20, .aload_n 0, 1), (21, .aload_n 0, 1), (22, .getfield 94, 3), (25, .putfield 60, 3), (28, .aload_n 0, 1), (29, .aload_n 0, 1), (30, .getfield 97, 3), (33, .putfield 52, 3), (36, .iconst 0, 1), (37, .istore_n 1, 1), (38, .iload_n 1, 1), (39, .aload_n 0, 1), (40, .invokevirtual 63, 3), (43, .if_icmp .ge 33, 3), (46, .aload_n 0, 1), (47, .getfield 7, 3), (50, .iload_n 1, 1), (51, .aload_n 0, 1), (52, .getfield 28, 3), (55, .iload_n 1, 1), (56, .iaload, 1), (57, .iastore, 1), (58, .aload_n 0, 1), (59, .getfield 13, 3), (62, .iload_n 1, 1), (63, .aload_n 0, 1), (64, .getfield 31, 3), (67, .iload_n 1, 1), (68, .iaload, 1), (69, .iastore, 1), (70, .iinc 1 1, 3), (73, .goto (-35), 3), (76, .aload_n 0, 1), (77, .iconst 0, 1), (78, .putfield 115, 3), (81, .aload_n 0, 1), (82, .iconst 0, 1), (83, .putfield 118, 3), (86, .aload_n 0, 1), (87, .iconst 0, 1), (88, .putfield 121, 3), (91, .aload_n 0, 1), (92, .iconst 0, 1), (93, .putfield 124, 3), (96, .aload_n 0, 1), (97, .invokevirtual 63, 3), (100, .ireturn, 1)] = true := by decide +kernel
theorem dX9_lay_0 : decode cX9_lay 0 = .ok (.aload_n 0, 1) := dget zdX9_lay_0 0 rfl
theorem dX9_lay_1 : decode cX9_lay 1 = .ok (.invokevirtual 112, 3) := dget zdX9_lay_0 1 rfl
theorem dX9_lay_4 : decode cX9_lay 4 = .ok (.bipush (-4), 2) := dget zdX9_lay_0 2 rfl
theorem dX9_lay_6 : decode cX9_lay 6 = .ok (.if_icmp .ne 11, 3) := dget zdX9_lay_0 3 rfl
theorem dX9_lay_9 : decode cX9_lay 9 = .ok (.aload_n 0, 1) := dget zdX9_lay_0 4 rfl
theorem dX9_lay_10 : decode cX9_lay 10 = .ok (.getfield 94, 3) := dget zdX9_lay_0 5 rfl
theorem dX9_lay_13 : decode cX9_lay 13 = .ok (.iconst 2, 1) := dget zdX9_lay_0 6 rfl
theorem dX9_lay_14 : decode cX9_lay 14 = .ok (.if_icmp .ge 6, 3) := dget zdX9_lay_0 7 rfl
theorem dX9_lay_17 : decode cX9_lay 17 = .ok (.bipush (-2), 2) := dget zdX9_lay_0 8 rfl
theorem dX9_lay_19 : decode cX9_lay 19 = .ok (.ireturn, 1) := dget zdX9_lay_0 9 rfl
theorem dX9_lay_20 : decode cX9_lay 20 = .ok (.aload_n 0, 1) := dget zdX9_lay_0 10 rfl
theorem dX9_lay_21 : decode cX9_lay 21 = .ok (.aload_n 0, 1) := dget zdX9_lay_0 11 rfl
theorem dX9_lay_22 : decode cX9_lay 22 = .ok (.getfield 94, 3) := dget zdX9_lay_0 12 rfl
theorem dX9_lay_25 : decode cX9_lay 25 = .ok (.putfield 60, 3) := dget zdX9_lay_0 13 rfl
theorem dX9_lay_28 : decode cX9_lay 28 = .ok (.aload_n 0, 1) := dget zdX9_lay_0 14 rfl
theorem dX9_lay_29 : decode cX9_lay 29 = .ok (.aload_n 0, 1) := dget zdX9_lay_0 15 rfl
theorem dX9_lay_30 : decode cX9_lay 30 = .ok (.getfield 97, 3) := dget zdX9_lay_0 16 rfl
theorem dX9_lay_33 : decode cX9_lay 33 = .ok (.putfield 52, 3) := dget zdX9_lay_0 17 rfl
theorem dX9_lay_36 : decode cX9_lay 36 = .ok (.iconst 0, 1) := dget zdX9_lay_0 18 rfl
theorem dX9_lay_37 : decode cX9_lay 37 = .ok (.istore_n 1, 1) := dget zdX9_lay_0 19 rfl
theorem dX9_lay_38 : decode cX9_lay 38 = .ok (.iload_n 1, 1) := dget zdX9_lay_0 20 rfl
theorem dX9_lay_39 : decode cX9_lay 39 = .ok (.aload_n 0, 1) := dget zdX9_lay_0 21 rfl
theorem dX9_lay_40 : decode cX9_lay 40 = .ok (.invokevirtual 63, 3) := dget zdX9_lay_0 22 rfl
theorem dX9_lay_43 : decode cX9_lay 43 = .ok (.if_icmp .ge 33, 3) := dget zdX9_lay_0 23 rfl
theorem dX9_lay_46 : decode cX9_lay 46 = .ok (.aload_n 0, 1) := dget zdX9_lay_0 24 rfl
theorem dX9_lay_47 : decode cX9_lay 47 = .ok (.getfield 7, 3) := dget zdX9_lay_0 25 rfl
theorem dX9_lay_50 : decode cX9_lay 50 = .ok (.iload_n 1, 1) := dget zdX9_lay_0 26 rfl
theorem dX9_lay_51 : decode cX9_lay 51 = .ok (.aload_n 0, 1) := dget zdX9_lay_0 27 rfl
theorem dX9_lay_52 : decode cX9_lay 52 = .ok (.getfield 28, 3) := dget zdX9_lay_0 28 rfl
theorem dX9_lay_55 : decode cX9_lay 55 = .ok (.iload_n 1, 1) := dget zdX9_lay_0 29 rfl
theorem dX9_lay_56 : decode cX9_lay 56 = .ok (.iaload, 1) := dget zdX9_lay_0 30 rfl
theorem dX9_lay_57 : decode cX9_lay 57 = .ok (.iastore, 1) := dget zdX9_lay_0 31 rfl
theorem dX9_lay_58 : decode cX9_lay 58 = .ok (.aload_n 0, 1) := dget zdX9_lay_0 32 rfl
theorem dX9_lay_59 : decode cX9_lay 59 = .ok (.getfield 13, 3) := dget zdX9_lay_0 33 rfl
theorem dX9_lay_62 : decode cX9_lay 62 = .ok (.iload_n 1, 1) := dget zdX9_lay_0 34 rfl
theorem dX9_lay_63 : decode cX9_lay 63 = .ok (.aload_n 0, 1) := dget zdX9_lay_0 35 rfl
theorem dX9_lay_64 : decode cX9_lay 64 = .ok (.getfield 31, 3) := dget zdX9_lay_0 36 rfl
theorem dX9_lay_67 : decode cX9_lay 67 = .ok (.iload_n 1, 1) := dget zdX9_lay_0 37 rfl
theorem dX9_lay_68 : decode cX9_lay 68 = .ok (.iaload, 1) := dget zdX9_lay_0 38 rfl
theorem dX9_lay_69 : decode cX9_lay 69 = .ok (.iastore, 1) := dget zdX9_lay_0 39 rfl
theorem dX9_lay_70 : decode cX9_lay 70 = .ok (.iinc 1 1, 3) := dget zdX9_lay_0 40 rfl
theorem dX9_lay_73 : decode cX9_lay 73 = .ok (.goto (-35), 3) := dget zdX9_lay_0 41 rfl
theorem dX9_lay_76 : decode cX9_lay 76 = .ok (.aload_n 0, 1) := dget zdX9_lay_0 42 rfl
theorem dX9_lay_77 : decode cX9_lay 77 = .ok (.iconst 0, 1) := dget zdX9_lay_0 43 rfl
theorem dX9_lay_78 : decode cX9_lay 78 = .ok (.putfield 115, 3) := dget zdX9_lay_0 44 rfl
theorem dX9_lay_81 : decode cX9_lay 81 = .ok (.aload_n 0, 1) := dget zdX9_lay_0 45 rfl
theorem dX9_lay_82 : decode cX9_lay 82 = .ok (.iconst 0, 1) := dget zdX9_lay_0 46 rfl
theorem dX9_lay_83 : decode cX9_lay 83 = .ok (.putfield 118, 3) := dget zdX9_lay_0 47 rfl
theorem dX9_lay_86 : decode cX9_lay 86 = .ok (.aload_n 0, 1) := dget zdX9_lay_0 48 rfl
theorem dX9_lay_87 : decode cX9_lay 87 = .ok (.iconst 0, 1) := dget zdX9_lay_0 49 rfl
theorem dX9_lay_88 : decode cX9_lay 88 = .ok (.putfield 121, 3) := dget zdX9_lay_0 50 rfl
theorem dX9_lay_91 : decode cX9_lay 91 = .ok (.aload_n 0, 1) := dget zdX9_lay_0 51 rfl
theorem dX9_lay_92 : decode cX9_lay 92 = .ok (.iconst 0, 1) := dget zdX9_lay_0 52 rfl
theorem dX9_lay_93 : decode cX9_lay 93 = .ok (.putfield 124, 3) := dget zdX9_lay_0 53 rfl
theorem dX9_lay_96 : decode cX9_lay 96 = .ok (.aload_n 0, 1) := dget zdX9_lay_0 54 rfl
theorem dX9_lay_97 : decode cX9_lay 97 = .ok (.invokevirtual 63, 3) := dget zdX9_lay_0 55 rfl
theorem dX9_lay_100 : decode cX9_lay 100 = .ok (.ireturn, 1) := dget zdX9_lay_0 56 rfl
theorem zdX9_slower_0 : dchk cX9_slower [(0, .iload_n 0, 1), (1, .iconst 1, 1), (2, .if_icmp .ne 9, 3), (5, .iload_n 1, 1), (6, .iconst 1, 1), (7, .iadd, 1), (8, .goto 17, 3), (11, .iload_n 0, 1), (12, .iconst 2, 1), (13, .if_icmp .ne 9, 3), (16, .iload_n 1, 1), (17, .iconst 5, 1), (18, .isub, 1), (19, .goto 6, 3), (22, .iload_n 1, 1), (23, .iconst 2, 1), (24, .isub, 1), (25, .istore_n 2, 1), (26, .iload_n 2, 1), (27, .ifCond .ge 7, 3), (30, .iconst 0, 1), (31, .goto 26, 3), (34, .iload_n 2, 1), (35, .bipush 20, 2), (37, .if_icmp .le 8, 3), (40, .bipush 20, 2), (42, .goto 15, 3), (45, .iload_n 0, 1), (46, .iconst 3, 1), (47, .if_icmp .ne 9, 3), (50, .iload_n 2, 1), (51, .iconst 2, 1), (52, .idiv, 1), (53, .goto 4, 3), (56, .iload_n 2, 1), (57, .ireturn, 1)] = true := by decide +kernel
theorem dX9_slower_0 : decode cX9_slower 0 = .ok (.iload_n 0, 1) := dget zdX9_slower_0 0 rfl
theorem dX9_slower_1 : decode cX9_slower 1 = .ok (.iconst 1, 1) := dget zdX9_slower_0 1 rfl
theorem dX9_slower_2 : decode cX9_slower 2 = .ok (.if_icmp .ne 9, 3) := dget zdX9_slower_0 2 rfl
theorem dX9_slower_5 : decode cX9_slower 5 = .ok (.iload_n 1, 1) := dget zdX9_slower_0 3 rfl
theorem dX9_slower_6 : decode cX9_slower 6 = .ok (.iconst 1, 1) := dget zdX9_slower_0 4 rfl
theorem dX9_slower_7 : decode cX9_slower 7 = .ok (.iadd, 1) := dget zdX9_slower_0 5 rfl
theorem dX9_slower_8 : decode cX9_slower 8 = .ok (.goto 17, 3) := dget zdX9_slower_0 6 rfl
theorem dX9_slower_11 : decode cX9_slower 11 = .ok (.iload_n 0, 1) := dget zdX9_slower_0 7 rfl
theorem dX9_slower_12 : decode cX9_slower 12 = .ok (.iconst 2, 1) := dget zdX9_slower_0 8 rfl
theorem dX9_slower_13 : decode cX9_slower 13 = .ok (.if_icmp .ne 9, 3) := dget zdX9_slower_0 9 rfl
theorem dX9_slower_16 : decode cX9_slower 16 = .ok (.iload_n 1, 1) := dget zdX9_slower_0 10 rfl
theorem dX9_slower_17 : decode cX9_slower 17 = .ok (.iconst 5, 1) := dget zdX9_slower_0 11 rfl
theorem dX9_slower_18 : decode cX9_slower 18 = .ok (.isub, 1) := dget zdX9_slower_0 12 rfl
theorem dX9_slower_19 : decode cX9_slower 19 = .ok (.goto 6, 3) := dget zdX9_slower_0 13 rfl
theorem dX9_slower_22 : decode cX9_slower 22 = .ok (.iload_n 1, 1) := dget zdX9_slower_0 14 rfl
theorem dX9_slower_23 : decode cX9_slower 23 = .ok (.iconst 2, 1) := dget zdX9_slower_0 15 rfl
theorem dX9_slower_24 : decode cX9_slower 24 = .ok (.isub, 1) := dget zdX9_slower_0 16 rfl
theorem dX9_slower_25 : decode cX9_slower 25 = .ok (.istore_n 2, 1) := dget zdX9_slower_0 17 rfl
theorem dX9_slower_26 : decode cX9_slower 26 = .ok (.iload_n 2, 1) := dget zdX9_slower_0 18 rfl
theorem dX9_slower_27 : decode cX9_slower 27 = .ok (.ifCond .ge 7, 3) := dget zdX9_slower_0 19 rfl
theorem dX9_slower_30 : decode cX9_slower 30 = .ok (.iconst 0, 1) := dget zdX9_slower_0 20 rfl
theorem dX9_slower_31 : decode cX9_slower 31 = .ok (.goto 26, 3) := dget zdX9_slower_0 21 rfl
theorem dX9_slower_34 : decode cX9_slower 34 = .ok (.iload_n 2, 1) := dget zdX9_slower_0 22 rfl
theorem dX9_slower_35 : decode cX9_slower 35 = .ok (.bipush 20, 2) := dget zdX9_slower_0 23 rfl
theorem dX9_slower_37 : decode cX9_slower 37 = .ok (.if_icmp .le 8, 3) := dget zdX9_slower_0 24 rfl
theorem dX9_slower_40 : decode cX9_slower 40 = .ok (.bipush 20, 2) := dget zdX9_slower_0 25 rfl
theorem dX9_slower_42 : decode cX9_slower 42 = .ok (.goto 15, 3) := dget zdX9_slower_0 26 rfl
theorem dX9_slower_45 : decode cX9_slower 45 = .ok (.iload_n 0, 1) := dget zdX9_slower_0 27 rfl
theorem dX9_slower_46 : decode cX9_slower 46 = .ok (.iconst 3, 1) := dget zdX9_slower_0 28 rfl
theorem dX9_slower_47 : decode cX9_slower 47 = .ok (.if_icmp .ne 9, 3) := dget zdX9_slower_0 29 rfl
theorem dX9_slower_50 : decode cX9_slower 50 = .ok (.iload_n 2, 1) := dget zdX9_slower_0 30 rfl
theorem dX9_slower_51 : decode cX9_slower 51 = .ok (.iconst 2, 1) := dget zdX9_slower_0 31 rfl
theorem dX9_slower_52 : decode cX9_slower 52 = .ok (.idiv, 1) := dget zdX9_slower_0 32 rfl
theorem dX9_slower_53 : decode cX9_slower 53 = .ok (.goto 4, 3) := dget zdX9_slower_0 33 rfl
theorem dX9_slower_56 : decode cX9_slower 56 = .ok (.iload_n 2, 1) := dget zdX9_slower_0 34 rfl
theorem dX9_slower_57 : decode cX9_slower 57 = .ok (.ireturn, 1) := dget zdX9_slower_0 35 rfl
theorem zdX9_goes_0 : dchk cX9_goes [(0, .iconst 0, 1), (1, .istore 4, 2), (3, .iload 4, 2), (5, .bipush 8, 2), (7, .if_icmp .ge 27, 3), (10, .aload_n 0, 1), (11, .getfield 34, 3), (14, .iload 4, 2), (16, .bipush (-4), 2), (18, .iastore, 1), (19, .aload_n 0, 1), (20, .getfield 37, 3), (23, .iload 4, 2), (25, .bipush (-4), 2), (27, .iastore, 1), (28, .iinc 4 1, 3), (31, .goto (-28), 3), (34, .iload_n 1, 1), (35, .istore 4, 2), (37, .iload_n 2, 1), (38, .istore 5, 2), (40, .iload_n 3, 1), (41, .bipush 10, 2), (43, .if_icmp .le 10, 3), (46, .iload_n 3, 1), (47, .bipush 11, 2), (49, .isub, 1), (50, .goto 6, 3), (53, .iload_n 3, 1), (54, .iconst 1, 1), (55, .isub, 1), (56, .istore 6, 2), (58, .iconst 0, 1), (59, .istore 7, 2), (61, .iload 7, 2), (63, .aload_n 0, 1), (64, .getfield 60, 3), (67, .if_icmp .ge 137, 3), (70, .aload_n 0, 1), (71, .getfield 52, 3), (74, .iload 7, 2), (76, .imul, 1), (77, .iload 4, 2), (79, .iadd, 1), (80, .istore 8, 2), (82, .aload_n 0, 1), (83, .getfield 7, 3), (86, .iload 8, 2), (88, .iaload, 1), (89, .iload 5, 2), (91, .invokestatic 127, 3), (94, .istore 5, 2), (96, .iload 5, 2), (98, .ifCond .le 14, 3), (101, .iload 6, 2), (103, .iload 7, 2), (105, .if_icmp .ne 7, 3), (108, .iconst 1, 1), (109, .goto 4, 3), (112, .iconst 0, 1), (113, .istore 9, 2), (115, .iload 5, 2), (117, .iload 9, 2), (119, .ifCond .eq 7, 3), (122, .iconst 1, 1), (123, .goto 4, 3), (126, .iconst 0, 1), (127, .isub, 1), (128, .istore 5, 2), (130, .aload_n 0, 1), (131, .getfield 34, 3), (134, .iload 7, 2), (136, .iload 8, 2), (138, .iastore, 1), (139, .aload_n 0, 1), (140, .getfield 37, 3), (143, .iload 7, 2), (145, .iload 5, 2), (147, .iastore, 1), (148, .iload 5, 2), (150, .ifCond .ne 6, 3), (153, .iload 8, 2), (155, .ireturn, 1), (156, .iload_n 3, 1), (157, .bipush 10, 2), (159, .if_icmp .le 10, 3), (162, .iload 4, 2), (164, .iconst 1, 1), (165, .iadd, 1), (166, .goto 7, 3), (169, .iload 4, 2), (171, .iconst 1, 1), (172, .isub, 1), (173, .istore 10, 2), (175, .iload 9, 2), (177, .ifCond .eq 17, 3), (180, .aload_n 0, 1), (181, .iload 10, 2), (183, .invokevirtual 71, 3), (186, .ifCond .eq 8, 3), (189, .iload 10, 2), (191, .goto 5, 3), (194, .iload 4, 2), (196, .istore 4, 2), (198, .iinc 7 1, 3), (201, .goto (-140), 3), (204, .bipush 99, 2), (206, .ireturn, 1)] = true := by decide +kernel
theorem dX9_goes_0 : decode cX9_goes 0 = .ok (.iconst 0, 1) := dget zdX9_goes_0 0 rfl
theorem dX9_goes_1 : decode cX9_goes 1 = .ok (.istore 4, 2) := dget zdX9_goes_0 1 rfl
theorem dX9_goes_3 : decode cX9_goes 3 = .ok (.iload 4, 2) := dget zdX9_goes_0 2 rfl
theorem dX9_goes_5 : decode cX9_goes 5 = .ok (.bipush 8, 2) := dget zdX9_goes_0 3 rfl
theorem dX9_goes_7 : decode cX9_goes 7 = .ok (.if_icmp .ge 27, 3) := dget zdX9_goes_0 4 rfl
theorem dX9_goes_10 : decode cX9_goes 10 = .ok (.aload_n 0, 1) := dget zdX9_goes_0 5 rfl
theorem dX9_goes_11 : decode cX9_goes 11 = .ok (.getfield 34, 3) := dget zdX9_goes_0 6 rfl
theorem dX9_goes_14 : decode cX9_goes 14 = .ok (.iload 4, 2) := dget zdX9_goes_0 7 rfl
theorem dX9_goes_16 : decode cX9_goes 16 = .ok (.bipush (-4), 2) := dget zdX9_goes_0 8 rfl
theorem dX9_goes_18 : decode cX9_goes 18 = .ok (.iastore, 1) := dget zdX9_goes_0 9 rfl
theorem dX9_goes_19 : decode cX9_goes 19 = .ok (.aload_n 0, 1) := dget zdX9_goes_0 10 rfl
theorem dX9_goes_20 : decode cX9_goes 20 = .ok (.getfield 37, 3) := dget zdX9_goes_0 11 rfl
theorem dX9_goes_23 : decode cX9_goes 23 = .ok (.iload 4, 2) := dget zdX9_goes_0 12 rfl
theorem dX9_goes_25 : decode cX9_goes 25 = .ok (.bipush (-4), 2) := dget zdX9_goes_0 13 rfl
theorem dX9_goes_27 : decode cX9_goes 27 = .ok (.iastore, 1) := dget zdX9_goes_0 14 rfl
theorem dX9_goes_28 : decode cX9_goes 28 = .ok (.iinc 4 1, 3) := dget zdX9_goes_0 15 rfl
theorem dX9_goes_31 : decode cX9_goes 31 = .ok (.goto (-28), 3) := dget zdX9_goes_0 16 rfl
theorem dX9_goes_34 : decode cX9_goes 34 = .ok (.iload_n 1, 1) := dget zdX9_goes_0 17 rfl
theorem dX9_goes_35 : decode cX9_goes 35 = .ok (.istore 4, 2) := dget zdX9_goes_0 18 rfl
theorem dX9_goes_37 : decode cX9_goes 37 = .ok (.iload_n 2, 1) := dget zdX9_goes_0 19 rfl
theorem dX9_goes_38 : decode cX9_goes 38 = .ok (.istore 5, 2) := dget zdX9_goes_0 20 rfl
theorem dX9_goes_40 : decode cX9_goes 40 = .ok (.iload_n 3, 1) := dget zdX9_goes_0 21 rfl
theorem dX9_goes_41 : decode cX9_goes 41 = .ok (.bipush 10, 2) := dget zdX9_goes_0 22 rfl
theorem dX9_goes_43 : decode cX9_goes 43 = .ok (.if_icmp .le 10, 3) := dget zdX9_goes_0 23 rfl
theorem dX9_goes_46 : decode cX9_goes 46 = .ok (.iload_n 3, 1) := dget zdX9_goes_0 24 rfl
theorem dX9_goes_47 : decode cX9_goes 47 = .ok (.bipush 11, 2) := dget zdX9_goes_0 25 rfl
theorem dX9_goes_49 : decode cX9_goes 49 = .ok (.isub, 1) := dget zdX9_goes_0 26 rfl
theorem dX9_goes_50 : decode cX9_goes 50 = .ok (.goto 6, 3) := dget zdX9_goes_0 27 rfl
theorem dX9_goes_53 : decode cX9_goes 53 = .ok (.iload_n 3, 1) := dget zdX9_goes_0 28 rfl
theorem dX9_goes_54 : decode cX9_goes 54 = .ok (.iconst 1, 1) := dget zdX9_goes_0 29 rfl
theorem dX9_goes_55 : decode cX9_goes 55 = .ok (.isub, 1) := dget zdX9_goes_0 30 rfl
theorem dX9_goes_56 : decode cX9_goes 56 = .ok (.istore 6, 2) := dget zdX9_goes_0 31 rfl
theorem dX9_goes_58 : decode cX9_goes 58 = .ok (.iconst 0, 1) := dget zdX9_goes_0 32 rfl
theorem dX9_goes_59 : decode cX9_goes 59 = .ok (.istore 7, 2) := dget zdX9_goes_0 33 rfl
theorem dX9_goes_61 : decode cX9_goes 61 = .ok (.iload 7, 2) := dget zdX9_goes_0 34 rfl
theorem dX9_goes_63 : decode cX9_goes 63 = .ok (.aload_n 0, 1) := dget zdX9_goes_0 35 rfl
theorem dX9_goes_64 : decode cX9_goes 64 = .ok (.getfield 60, 3) := dget zdX9_goes_0 36 rfl
theorem dX9_goes_67 : decode cX9_goes 67 = .ok (.if_icmp .ge 137, 3) := dget zdX9_goes_0 37 rfl
theorem dX9_goes_70 : decode cX9_goes 70 = .ok (.aload_n 0, 1) := dget zdX9_goes_0 38 rfl
theorem dX9_goes_71 : decode cX9_goes 71 = .ok (.getfield 52, 3) := dget zdX9_goes_0 39 rfl
theorem dX9_goes_74 : decode cX9_goes 74 = .ok (.iload 7, 2) := dget zdX9_goes_0 40 rfl
theorem dX9_goes_76 : decode cX9_goes 76 = .ok (.imul, 1) := dget zdX9_goes_0 41 rfl
theorem dX9_goes_77 : decode cX9_goes 77 = .ok (.iload 4, 2) := dget zdX9_goes_0 42 rfl
theorem dX9_goes_79 : decode cX9_goes 79 = .ok (.iadd, 1) := dget zdX9_goes_0 43 rfl
theorem dX9_goes_80 : decode cX9_goes 80 = .ok (.istore 8, 2) := dget zdX9_goes_0 44 rfl
theorem dX9_goes_82 : decode cX9_goes 82 = .ok (.aload_n 0, 1) := dget zdX9_goes_0 45 rfl
theorem dX9_goes_83 : decode cX9_goes 83 = .ok (.getfield 7, 3) := dget zdX9_goes_0 46 rfl
theorem dX9_goes_86 : decode cX9_goes 86 = .ok (.iload 8, 2) := dget zdX9_goes_0 47 rfl
theorem dX9_goes_88 : decode cX9_goes 88 = .ok (.iaload, 1) := dget zdX9_goes_0 48 rfl
theorem dX9_goes_89 : decode cX9_goes 89 = .ok (.iload 5, 2) := dget zdX9_goes_0 49 rfl
theorem dX9_goes_91 : decode cX9_goes 91 = .ok (.invokestatic 127, 3) := dget zdX9_goes_0 50 rfl
theorem dX9_goes_94 : decode cX9_goes 94 = .ok (.istore 5, 2) := dget zdX9_goes_0 51 rfl
theorem dX9_goes_96 : decode cX9_goes 96 = .ok (.iload 5, 2) := dget zdX9_goes_0 52 rfl
theorem dX9_goes_98 : decode cX9_goes 98 = .ok (.ifCond .le 14, 3) := dget zdX9_goes_0 53 rfl
theorem dX9_goes_101 : decode cX9_goes 101 = .ok (.iload 6, 2) := dget zdX9_goes_0 54 rfl
theorem dX9_goes_103 : decode cX9_goes 103 = .ok (.iload 7, 2) := dget zdX9_goes_0 55 rfl
theorem dX9_goes_105 : decode cX9_goes 105 = .ok (.if_icmp .ne 7, 3) := dget zdX9_goes_0 56 rfl
theorem dX9_goes_108 : decode cX9_goes 108 = .ok (.iconst 1, 1) := dget zdX9_goes_0 57 rfl
theorem dX9_goes_109 : decode cX9_goes 109 = .ok (.goto 4, 3) := dget zdX9_goes_0 58 rfl
theorem dX9_goes_112 : decode cX9_goes 112 = .ok (.iconst 0, 1) := dget zdX9_goes_0 59 rfl
theorem dX9_goes_113 : decode cX9_goes 113 = .ok (.istore 9, 2) := dget zdX9_goes_0 60 rfl
theorem dX9_goes_115 : decode cX9_goes 115 = .ok (.iload 5, 2) := dget zdX9_goes_0 61 rfl
theorem dX9_goes_117 : decode cX9_goes 117 = .ok (.iload 9, 2) := dget zdX9_goes_0 62 rfl
theorem dX9_goes_119 : decode cX9_goes 119 = .ok (.ifCond .eq 7, 3) := dget zdX9_goes_0 63 rfl
theorem dX9_goes_122 : decode cX9_goes 122 = .ok (.iconst 1, 1) := dget zdX9_goes_0 64 rfl
theorem dX9_goes_123 : decode cX9_goes 123 = .ok (.goto 4, 3) := dget zdX9_goes_0 65 rfl
theorem dX9_goes_126 : decode cX9_goes 126 = .ok (.iconst 0, 1) := dget zdX9_goes_0 66 rfl
theorem dX9_goes_127 : decode cX9_goes 127 = .ok (.isub, 1) := dget zdX9_goes_0 67 rfl
theorem dX9_goes_128 : decode cX9_goes 128 = .ok (.istore 5, 2) := dget zdX9_goes_0 68 rfl
theorem dX9_goes_130 : decode cX9_goes 130 = .ok (.aload_n 0, 1) := dget zdX9_goes_0 69 rfl
theorem dX9_goes_131 : decode cX9_goes 131 = .ok (.getfield 34, 3) := dget zdX9_goes_0 70 rfl
theorem dX9_goes_134 : decode cX9_goes 134 = .ok (.iload 7, 2) := dget zdX9_goes_0 71 rfl
theorem dX9_goes_136 : decode cX9_goes 136 = .ok (.iload 8, 2) := dget zdX9_goes_0 72 rfl
theorem dX9_goes_138 : decode cX9_goes 138 = .ok (.iastore, 1) := dget zdX9_goes_0 73 rfl
theorem dX9_goes_139 : decode cX9_goes 139 = .ok (.aload_n 0, 1) := dget zdX9_goes_0 74 rfl
theorem dX9_goes_140 : decode cX9_goes 140 = .ok (.getfield 37, 3) := dget zdX9_goes_0 75 rfl
theorem dX9_goes_143 : decode cX9_goes 143 = .ok (.iload 7, 2) := dget zdX9_goes_0 76 rfl
theorem dX9_goes_145 : decode cX9_goes 145 = .ok (.iload 5, 2) := dget zdX9_goes_0 77 rfl
theorem dX9_goes_147 : decode cX9_goes 147 = .ok (.iastore, 1) := dget zdX9_goes_0 78 rfl
theorem dX9_goes_148 : decode cX9_goes 148 = .ok (.iload 5, 2) := dget zdX9_goes_0 79 rfl
theorem dX9_goes_150 : decode cX9_goes 150 = .ok (.ifCond .ne 6, 3) := dget zdX9_goes_0 80 rfl
theorem dX9_goes_153 : decode cX9_goes 153 = .ok (.iload 8, 2) := dget zdX9_goes_0 81 rfl
theorem dX9_goes_155 : decode cX9_goes 155 = .ok (.ireturn, 1) := dget zdX9_goes_0 82 rfl
theorem dX9_goes_156 : decode cX9_goes 156 = .ok (.iload_n 3, 1) := dget zdX9_goes_0 83 rfl
theorem dX9_goes_157 : decode cX9_goes 157 = .ok (.bipush 10, 2) := dget zdX9_goes_0 84 rfl
theorem dX9_goes_159 : decode cX9_goes 159 = .ok (.if_icmp .le 10, 3) := dget zdX9_goes_0 85 rfl
theorem dX9_goes_162 : decode cX9_goes 162 = .ok (.iload 4, 2) := dget zdX9_goes_0 86 rfl
theorem dX9_goes_164 : decode cX9_goes 164 = .ok (.iconst 1, 1) := dget zdX9_goes_0 87 rfl
theorem dX9_goes_165 : decode cX9_goes 165 = .ok (.iadd, 1) := dget zdX9_goes_0 88 rfl
theorem dX9_goes_166 : decode cX9_goes 166 = .ok (.goto 7, 3) := dget zdX9_goes_0 89 rfl
theorem dX9_goes_169 : decode cX9_goes 169 = .ok (.iload 4, 2) := dget zdX9_goes_0 90 rfl
theorem dX9_goes_171 : decode cX9_goes 171 = .ok (.iconst 1, 1) := dget zdX9_goes_0 91 rfl
theorem dX9_goes_172 : decode cX9_goes 172 = .ok (.isub, 1) := dget zdX9_goes_0 92 rfl
theorem dX9_goes_173 : decode cX9_goes 173 = .ok (.istore 10, 2) := dget zdX9_goes_0 93 rfl
theorem dX9_goes_175 : decode cX9_goes 175 = .ok (.iload 9, 2) := dget zdX9_goes_0 94 rfl
theorem dX9_goes_177 : decode cX9_goes 177 = .ok (.ifCond .eq 17, 3) := dget zdX9_goes_0 95 rfl
theorem dX9_goes_180 : decode cX9_goes 180 = .ok (.aload_n 0, 1) := dget zdX9_goes_0 96 rfl
theorem dX9_goes_181 : decode cX9_goes 181 = .ok (.iload 10, 2) := dget zdX9_goes_0 97 rfl
theorem dX9_goes_183 : decode cX9_goes 183 = .ok (.invokevirtual 71, 3) := dget zdX9_goes_0 98 rfl
theorem dX9_goes_186 : decode cX9_goes 186 = .ok (.ifCond .eq 8, 3) := dget zdX9_goes_0 99 rfl
theorem dX9_goes_189 : decode cX9_goes 189 = .ok (.iload 10, 2) := dget zdX9_goes_0 100 rfl
theorem dX9_goes_191 : decode cX9_goes 191 = .ok (.goto 5, 3) := dget zdX9_goes_0 101 rfl
theorem dX9_goes_194 : decode cX9_goes 194 = .ok (.iload 4, 2) := dget zdX9_goes_0 102 rfl
theorem dX9_goes_196 : decode cX9_goes 196 = .ok (.istore 4, 2) := dget zdX9_goes_0 103 rfl
theorem dX9_goes_198 : decode cX9_goes 198 = .ok (.iinc 7 1, 3) := dget zdX9_goes_0 104 rfl
theorem dX9_goes_201 : decode cX9_goes 201 = .ok (.goto (-140), 3) := dget zdX9_goes_0 105 rfl
theorem dX9_goes_204 : decode cX9_goes 204 = .ok (.bipush 99, 2) := dget zdX9_goes_0 106 rfl
theorem dX9_goes_206 : decode cX9_goes 206 = .ok (.ireturn, 1) := dget zdX9_goes_0 107 rfl
theorem zdX9_cell_0 : dchk cX9_cell [(0, .aload_n 0, 1), (1, .iload_n 1, 1), (2, .invokevirtual 131, 3), (5, .ifCond .eq 12, 3), (8, .iload_n 2, 1), (9, .iconst 0, 1), (10, .iconst 1, 1), (11, .invokestatic 67, 3), (14, .ifCond .ne 5, 3), (17, .iconst (-1), 1), (18, .ireturn, 1), (19, .iload_n 2, 1), (20, .ifCond .ne 12, 3), (23, .aload_n 0, 1), (24, .getfield 7, 3), (27, .iload_n 1, 1), (28, .iaload, 1), (29, .goto 9, 3), (32, .aload_n 0, 1), (33, .getfield 13, 3), (36, .iload_n 1, 1), (37, .iaload, 1), (38, .ireturn, 1)] = true := by decide +kernel
theorem dX9_cell_0 : decode cX9_cell 0 = .ok (.aload_n 0, 1) := dget zdX9_cell_0 0 rfl
theorem dX9_cell_1 : decode cX9_cell 1 = .ok (.iload_n 1, 1) := dget zdX9_cell_0 1 rfl
theorem dX9_cell_2 : decode cX9_cell 2 = .ok (.invokevirtual 131, 3) := dget zdX9_cell_0 2 rfl
theorem dX9_cell_5 : decode cX9_cell 5 = .ok (.ifCond .eq 12, 3) := dget zdX9_cell_0 3 rfl
theorem dX9_cell_8 : decode cX9_cell 8 = .ok (.iload_n 2, 1) := dget zdX9_cell_0 4 rfl
theorem dX9_cell_9 : decode cX9_cell 9 = .ok (.iconst 0, 1) := dget zdX9_cell_0 5 rfl
theorem dX9_cell_10 : decode cX9_cell 10 = .ok (.iconst 1, 1) := dget zdX9_cell_0 6 rfl
theorem dX9_cell_11 : decode cX9_cell 11 = .ok (.invokestatic 67, 3) := dget zdX9_cell_0 7 rfl
theorem dX9_cell_14 : decode cX9_cell 14 = .ok (.ifCond .ne 5, 3) := dget zdX9_cell_0 8 rfl
theorem dX9_cell_17 : decode cX9_cell 17 = .ok (.iconst (-1), 1) := dget zdX9_cell_0 9 rfl
theorem dX9_cell_18 : decode cX9_cell 18 = .ok (.ireturn, 1) := dget zdX9_cell_0 10 rfl
theorem dX9_cell_19 : decode cX9_cell 19 = .ok (.iload_n 2, 1) := dget zdX9_cell_0 11 rfl
theorem dX9_cell_20 : decode cX9_cell 20 = .ok (.ifCond .ne 12, 3) := dget zdX9_cell_0 12 rfl
theorem dX9_cell_23 : decode cX9_cell 23 = .ok (.aload_n 0, 1) := dget zdX9_cell_0 13 rfl
theorem dX9_cell_24 : decode cX9_cell 24 = .ok (.getfield 7, 3) := dget zdX9_cell_0 14 rfl
theorem dX9_cell_27 : decode cX9_cell 27 = .ok (.iload_n 1, 1) := dget zdX9_cell_0 15 rfl
theorem dX9_cell_28 : decode cX9_cell 28 = .ok (.iaload, 1) := dget zdX9_cell_0 16 rfl
theorem dX9_cell_29 : decode cX9_cell 29 = .ok (.goto 9, 3) := dget zdX9_cell_0 17 rfl
theorem dX9_cell_32 : decode cX9_cell 32 = .ok (.aload_n 0, 1) := dget zdX9_cell_0 18 rfl
theorem dX9_cell_33 : decode cX9_cell 33 = .ok (.getfield 13, 3) := dget zdX9_cell_0 19 rfl
theorem dX9_cell_36 : decode cX9_cell 36 = .ok (.iload_n 1, 1) := dget zdX9_cell_0 20 rfl
theorem dX9_cell_37 : decode cX9_cell 37 = .ok (.iaload, 1) := dget zdX9_cell_0 21 rfl
theorem dX9_cell_38 : decode cX9_cell 38 = .ok (.ireturn, 1) := dget zdX9_cell_0 22 rfl
theorem zdX9_stops_0 : dchk cX9_stops [(0, .aload_n 0, 1), (1, .iload_n 1, 1), (2, .iload_n 2, 1), (3, .iload_n 3, 1), (4, .invokevirtual 134, 3), (7, .ifCond .eq 13, 3), (10, .aload_n 0, 1), (11, .iload_n 1, 1), (12, .iload_n 2, 1), (13, .iload_n 3, 1), (14, .invokevirtual 137, 3), (17, .goto 4, 3), (20, .iconst (-1), 1), (21, .ireturn, 1)] = true := by decide +kernel
theorem dX9_stops_0 : decode cX9_stops 0 = .ok (.aload_n 0, 1) := dget zdX9_stops_0 0 rfl
theorem dX9_stops_1 : decode cX9_stops 1 = .ok (.iload_n 1, 1) := dget zdX9_stops_0 1 rfl
theorem dX9_stops_2 : decode cX9_stops 2 = .ok (.iload_n 2, 1) := dget zdX9_stops_0 2 rfl
theorem dX9_stops_3 : decode cX9_stops 3 = .ok (.iload_n 3, 1) := dget zdX9_stops_0 3 rfl
theorem dX9_stops_4 : decode cX9_stops 4 = .ok (.invokevirtual 134, 3) := dget zdX9_stops_0 4 rfl
theorem dX9_stops_7 : decode cX9_stops 7 = .ok (.ifCond .eq 13, 3) := dget zdX9_stops_0 5 rfl
theorem dX9_stops_10 : decode cX9_stops 10 = .ok (.aload_n 0, 1) := dget zdX9_stops_0 6 rfl
theorem dX9_stops_11 : decode cX9_stops 11 = .ok (.iload_n 1, 1) := dget zdX9_stops_0 7 rfl
theorem dX9_stops_12 : decode cX9_stops 12 = .ok (.iload_n 2, 1) := dget zdX9_stops_0 8 rfl
theorem dX9_stops_13 : decode cX9_stops 13 = .ok (.iload_n 3, 1) := dget zdX9_stops_0 9 rfl
theorem dX9_stops_14 : decode cX9_stops 14 = .ok (.invokevirtual 137, 3) := dget zdX9_stops_0 10 rfl
theorem dX9_stops_17 : decode cX9_stops 17 = .ok (.goto 4, 3) := dget zdX9_stops_0 11 rfl
theorem dX9_stops_20 : decode cX9_stops 20 = .ok (.iconst (-1), 1) := dget zdX9_stops_0 12 rfl
theorem dX9_stops_21 : decode cX9_stops 21 = .ok (.ireturn, 1) := dget zdX9_stops_0 13 rfl
theorem zdX9_track_0 : dchk cX9_track [(0, .aload_n 0, 1), (1, .iload_n 1, 1), (2, .iload_n 2, 1), (3, .iload_n 3, 1), (4, .invokevirtual 134, 3), (7, .ifCond .eq 28, 3), (10, .iload 4, 2), (12, .iconst 0, 1), (13, .aload_n 0, 1), (14, .getfield 60, 3), (17, .iconst 1, 1), (18, .isub, 1), (19, .invokestatic 67, 3), (22, .ifCond .eq 13, 3), (25, .iload 5, 2), (27, .iconst 0, 1), (28, .iconst 1, 1), (29, .invokestatic 67, 3), (32, .ifCond .ne 5, 3), (35, .iconst (-1), 1), (36, .ireturn, 1), (37, .aload_n 0, 1), (38, .iload_n 1, 1), (39, .iload_n 2, 1), (40, .iload_n 3, 1), (41, .invokevirtual 137, 3), (44, .pop, 1), (45, .iload 5, 2), (47, .ifCond .ne 13, 3), (50, .aload_n 0, 1), (51, .getfield 34, 3), (54, .iload 4, 2), (56, .iaload, 1), (57, .goto 10, 3), (60, .aload_n 0, 1), (61, .getfield 37, 3), (64, .iload 4, 2), (66, .iaload, 1), (67, .ireturn, 1)] = true := by decide +kernel
theorem dX9_track_0 : decode cX9_track 0 = .ok (.aload_n 0, 1) := dget zdX9_track_0 0 rfl
theorem dX9_track_1 : decode cX9_track 1 = .ok (.iload_n 1, 1) := dget zdX9_track_0 1 rfl
theorem dX9_track_2 : decode cX9_track 2 = .ok (.iload_n 2, 1) := dget zdX9_track_0 2 rfl
theorem dX9_track_3 : decode cX9_track 3 = .ok (.iload_n 3, 1) := dget zdX9_track_0 3 rfl
theorem dX9_track_4 : decode cX9_track 4 = .ok (.invokevirtual 134, 3) := dget zdX9_track_0 4 rfl
theorem dX9_track_7 : decode cX9_track 7 = .ok (.ifCond .eq 28, 3) := dget zdX9_track_0 5 rfl
theorem dX9_track_10 : decode cX9_track 10 = .ok (.iload 4, 2) := dget zdX9_track_0 6 rfl
theorem dX9_track_12 : decode cX9_track 12 = .ok (.iconst 0, 1) := dget zdX9_track_0 7 rfl
theorem dX9_track_13 : decode cX9_track 13 = .ok (.aload_n 0, 1) := dget zdX9_track_0 8 rfl
theorem dX9_track_14 : decode cX9_track 14 = .ok (.getfield 60, 3) := dget zdX9_track_0 9 rfl
theorem dX9_track_17 : decode cX9_track 17 = .ok (.iconst 1, 1) := dget zdX9_track_0 10 rfl
theorem dX9_track_18 : decode cX9_track 18 = .ok (.isub, 1) := dget zdX9_track_0 11 rfl
theorem dX9_track_19 : decode cX9_track 19 = .ok (.invokestatic 67, 3) := dget zdX9_track_0 12 rfl
theorem dX9_track_22 : decode cX9_track 22 = .ok (.ifCond .eq 13, 3) := dget zdX9_track_0 13 rfl
theorem dX9_track_25 : decode cX9_track 25 = .ok (.iload 5, 2) := dget zdX9_track_0 14 rfl
theorem dX9_track_27 : decode cX9_track 27 = .ok (.iconst 0, 1) := dget zdX9_track_0 15 rfl
theorem dX9_track_28 : decode cX9_track 28 = .ok (.iconst 1, 1) := dget zdX9_track_0 16 rfl
theorem dX9_track_29 : decode cX9_track 29 = .ok (.invokestatic 67, 3) := dget zdX9_track_0 17 rfl
theorem dX9_track_32 : decode cX9_track 32 = .ok (.ifCond .ne 5, 3) := dget zdX9_track_0 18 rfl
theorem dX9_track_35 : decode cX9_track 35 = .ok (.iconst (-1), 1) := dget zdX9_track_0 19 rfl
theorem dX9_track_36 : decode cX9_track 36 = .ok (.ireturn, 1) := dget zdX9_track_0 20 rfl
theorem dX9_track_37 : decode cX9_track 37 = .ok (.aload_n 0, 1) := dget zdX9_track_0 21 rfl
theorem dX9_track_38 : decode cX9_track 38 = .ok (.iload_n 1, 1) := dget zdX9_track_0 22 rfl
theorem dX9_track_39 : decode cX9_track 39 = .ok (.iload_n 2, 1) := dget zdX9_track_0 23 rfl
theorem dX9_track_40 : decode cX9_track 40 = .ok (.iload_n 3, 1) := dget zdX9_track_0 24 rfl
theorem dX9_track_41 : decode cX9_track 41 = .ok (.invokevirtual 137, 3) := dget zdX9_track_0 25 rfl
theorem dX9_track_44 : decode cX9_track 44 = .ok (.pop, 1) := dget zdX9_track_0 26 rfl
theorem dX9_track_45 : decode cX9_track 45 = .ok (.iload 5, 2) := dget zdX9_track_0 27 rfl
theorem dX9_track_47 : decode cX9_track 47 = .ok (.ifCond .ne 13, 3) := dget zdX9_track_0 28 rfl
theorem dX9_track_50 : decode cX9_track 50 = .ok (.aload_n 0, 1) := dget zdX9_track_0 29 rfl
theorem dX9_track_51 : decode cX9_track 51 = .ok (.getfield 34, 3) := dget zdX9_track_0 30 rfl
theorem dX9_track_54 : decode cX9_track 54 = .ok (.iload 4, 2) := dget zdX9_track_0 31 rfl
theorem dX9_track_56 : decode cX9_track 56 = .ok (.iaload, 1) := dget zdX9_track_0 32 rfl
theorem dX9_track_57 : decode cX9_track 57 = .ok (.goto 10, 3) := dget zdX9_track_0 33 rfl
theorem dX9_track_60 : decode cX9_track 60 = .ok (.aload_n 0, 1) := dget zdX9_track_0 34 rfl
theorem dX9_track_61 : decode cX9_track 61 = .ok (.getfield 37, 3) := dget zdX9_track_0 35 rfl
theorem dX9_track_64 : decode cX9_track 64 = .ok (.iload 4, 2) := dget zdX9_track_0 36 rfl
theorem dX9_track_66 : decode cX9_track 66 = .ok (.iaload, 1) := dget zdX9_track_0 37 rfl
theorem dX9_track_67 : decode cX9_track 67 = .ok (.ireturn, 1) := dget zdX9_track_0 38 rfl
theorem zdX9_owned_0 : dchk cX9_owned [(0, .iconst 0, 1), (1, .istore_n 2, 1), (2, .iconst 0, 1), (3, .istore_n 3, 1), (4, .iload_n 3, 1), (5, .aload_n 0, 1), (6, .invokevirtual 63, 3), (9, .if_icmp .ge 27, 3), (12, .iload_n 2, 1), (13, .aload_n 0, 1), (14, .getfield 13, 3), (17, .iload_n 3, 1), (18, .iaload, 1), (19, .iload_n 1, 1), (20, .if_icmp .ne 7, 3), (23, .iconst 1, 1), (24, .goto 4, 3), (27, .iconst 0, 1), (28, .iadd, 1), (29, .istore_n 2, 1), (30, .iinc 3 1, 3), (33, .goto (-29), 3), (36, .iload_n 2, 1), (37, .ireturn, 1)] = true := by decide +kernel
theorem dX9_owned_0 : decode cX9_owned 0 = .ok (.iconst 0, 1) := dget zdX9_owned_0 0 rfl
theorem dX9_owned_1 : decode cX9_owned 1 = .ok (.istore_n 2, 1) := dget zdX9_owned_0 1 rfl
theorem dX9_owned_2 : decode cX9_owned 2 = .ok (.iconst 0, 1) := dget zdX9_owned_0 2 rfl
theorem dX9_owned_3 : decode cX9_owned 3 = .ok (.istore_n 3, 1) := dget zdX9_owned_0 3 rfl
theorem dX9_owned_4 : decode cX9_owned 4 = .ok (.iload_n 3, 1) := dget zdX9_owned_0 4 rfl
theorem dX9_owned_5 : decode cX9_owned 5 = .ok (.aload_n 0, 1) := dget zdX9_owned_0 5 rfl
theorem dX9_owned_6 : decode cX9_owned 6 = .ok (.invokevirtual 63, 3) := dget zdX9_owned_0 6 rfl
theorem dX9_owned_9 : decode cX9_owned 9 = .ok (.if_icmp .ge 27, 3) := dget zdX9_owned_0 7 rfl
theorem dX9_owned_12 : decode cX9_owned 12 = .ok (.iload_n 2, 1) := dget zdX9_owned_0 8 rfl
theorem dX9_owned_13 : decode cX9_owned 13 = .ok (.aload_n 0, 1) := dget zdX9_owned_0 9 rfl
theorem dX9_owned_14 : decode cX9_owned 14 = .ok (.getfield 13, 3) := dget zdX9_owned_0 10 rfl
theorem dX9_owned_17 : decode cX9_owned 17 = .ok (.iload_n 3, 1) := dget zdX9_owned_0 11 rfl
theorem dX9_owned_18 : decode cX9_owned 18 = .ok (.iaload, 1) := dget zdX9_owned_0 12 rfl
theorem dX9_owned_19 : decode cX9_owned 19 = .ok (.iload_n 1, 1) := dget zdX9_owned_0 13 rfl
theorem dX9_owned_20 : decode cX9_owned 20 = .ok (.if_icmp .ne 7, 3) := dget zdX9_owned_0 14 rfl
theorem dX9_owned_23 : decode cX9_owned 23 = .ok (.iconst 1, 1) := dget zdX9_owned_0 15 rfl
theorem dX9_owned_24 : decode cX9_owned 24 = .ok (.goto 4, 3) := dget zdX9_owned_0 16 rfl
theorem dX9_owned_27 : decode cX9_owned 27 = .ok (.iconst 0, 1) := dget zdX9_owned_0 17 rfl
theorem dX9_owned_28 : decode cX9_owned 28 = .ok (.iadd, 1) := dget zdX9_owned_0 18 rfl
theorem dX9_owned_29 : decode cX9_owned 29 = .ok (.istore_n 2, 1) := dget zdX9_owned_0 19 rfl
theorem dX9_owned_30 : decode cX9_owned 30 = .ok (.iinc 3 1, 3) := dget zdX9_owned_0 20 rfl
theorem dX9_owned_33 : decode cX9_owned 33 = .ok (.goto (-29), 3) := dget zdX9_owned_0 21 rfl
theorem dX9_owned_36 : decode cX9_owned 36 = .ok (.iload_n 2, 1) := dget zdX9_owned_0 22 rfl
theorem dX9_owned_37 : decode cX9_owned 37 = .ok (.ireturn, 1) := dget zdX9_owned_0 23 rfl
theorem zdX9_holds_0 : dchk cX9_holds [(0, .iload_n 1, 1), (1, .invokestatic 141, 3), (4, .ifCond .eq 11, 3), (7, .aload_n 0, 1), (8, .iload_n 1, 1), (9, .invokevirtual 144, 3), (12, .goto 4, 3), (15, .iconst (-1), 1), (16, .ireturn, 1)] = true := by decide +kernel
theorem dX9_holds_0 : decode cX9_holds 0 = .ok (.iload_n 1, 1) := dget zdX9_holds_0 0 rfl
theorem dX9_holds_1 : decode cX9_holds 1 = .ok (.invokestatic 141, 3) := dget zdX9_holds_0 1 rfl
theorem dX9_holds_4 : decode cX9_holds 4 = .ok (.ifCond .eq 11, 3) := dget zdX9_holds_0 2 rfl
theorem dX9_holds_7 : decode cX9_holds 7 = .ok (.aload_n 0, 1) := dget zdX9_holds_0 3 rfl
theorem dX9_holds_8 : decode cX9_holds 8 = .ok (.iload_n 1, 1) := dget zdX9_holds_0 4 rfl
theorem dX9_holds_9 : decode cX9_holds 9 = .ok (.invokevirtual 144, 3) := dget zdX9_holds_0 5 rfl
theorem dX9_holds_12 : decode cX9_holds 12 = .ok (.goto 4, 3) := dget zdX9_holds_0 6 rfl
theorem dX9_holds_15 : decode cX9_holds 15 = .ok (.iconst (-1), 1) := dget zdX9_holds_0 7 rfl
theorem dX9_holds_16 : decode cX9_holds 16 = .ok (.ireturn, 1) := dget zdX9_holds_0 8 rfl
theorem zdX9_lays_0 : dchk cX9_lays [(0, .aload_n 1, 1), (1, .iload_n 2, 1), (2, .aload_n 0, 1), (3, .getfield 115, 3), (6, .iastore, 1), (7, .iconst 0, 1), (8, .istore_n 3, 1), (9, .iload_n 3, 1), (10, .bipush 48, 2), (12, .if_icmp .ge 36, 3), (15, .aload_n 1, 1), (16, .iload_n 2, 1), (17, .iconst 1, 1), (18, .iadd, 1), (19, .iload_n 3, 1), (20, .iadd, 1), (21, .aload_n 0, 1), (22, .getfield 7, 3), (25, .iload_n 3, 1), (26, .iaload, 1), (27, .iastore, 1), (28, .aload_n 1, 1), (29, .iload_n 2, 1), (30, .bipush 49, 2), (32, .iadd, 1), (33, .iload_n 3, 1), (34, .iadd, 1), (35, .aload_n 0, 1), (36, .getfield 13, 3), (39, .iload_n 3, 1), (40, .iaload, 1), (41, .iastore, 1), (42, .iinc 3 1, 3), (45, .goto (-36), 3), (48, .return_, 1)] = true := by decide +kernel
theorem dX9_lays_0 : decode cX9_lays 0 = .ok (.aload_n 1, 1) := dget zdX9_lays_0 0 rfl
theorem dX9_lays_1 : decode cX9_lays 1 = .ok (.iload_n 2, 1) := dget zdX9_lays_0 1 rfl
theorem dX9_lays_2 : decode cX9_lays 2 = .ok (.aload_n 0, 1) := dget zdX9_lays_0 2 rfl
theorem dX9_lays_3 : decode cX9_lays 3 = .ok (.getfield 115, 3) := dget zdX9_lays_0 3 rfl
theorem dX9_lays_6 : decode cX9_lays 6 = .ok (.iastore, 1) := dget zdX9_lays_0 4 rfl
theorem dX9_lays_7 : decode cX9_lays 7 = .ok (.iconst 0, 1) := dget zdX9_lays_0 5 rfl
theorem dX9_lays_8 : decode cX9_lays 8 = .ok (.istore_n 3, 1) := dget zdX9_lays_0 6 rfl
theorem dX9_lays_9 : decode cX9_lays 9 = .ok (.iload_n 3, 1) := dget zdX9_lays_0 7 rfl
theorem dX9_lays_10 : decode cX9_lays 10 = .ok (.bipush 48, 2) := dget zdX9_lays_0 8 rfl
theorem dX9_lays_12 : decode cX9_lays 12 = .ok (.if_icmp .ge 36, 3) := dget zdX9_lays_0 9 rfl
theorem dX9_lays_15 : decode cX9_lays 15 = .ok (.aload_n 1, 1) := dget zdX9_lays_0 10 rfl
theorem dX9_lays_16 : decode cX9_lays 16 = .ok (.iload_n 2, 1) := dget zdX9_lays_0 11 rfl
theorem dX9_lays_17 : decode cX9_lays 17 = .ok (.iconst 1, 1) := dget zdX9_lays_0 12 rfl
theorem dX9_lays_18 : decode cX9_lays 18 = .ok (.iadd, 1) := dget zdX9_lays_0 13 rfl
theorem dX9_lays_19 : decode cX9_lays 19 = .ok (.iload_n 3, 1) := dget zdX9_lays_0 14 rfl
theorem dX9_lays_20 : decode cX9_lays 20 = .ok (.iadd, 1) := dget zdX9_lays_0 15 rfl
theorem dX9_lays_21 : decode cX9_lays 21 = .ok (.aload_n 0, 1) := dget zdX9_lays_0 16 rfl
theorem dX9_lays_22 : decode cX9_lays 22 = .ok (.getfield 7, 3) := dget zdX9_lays_0 17 rfl
theorem dX9_lays_25 : decode cX9_lays 25 = .ok (.iload_n 3, 1) := dget zdX9_lays_0 18 rfl
theorem dX9_lays_26 : decode cX9_lays 26 = .ok (.iaload, 1) := dget zdX9_lays_0 19 rfl
theorem dX9_lays_27 : decode cX9_lays 27 = .ok (.iastore, 1) := dget zdX9_lays_0 20 rfl
theorem dX9_lays_28 : decode cX9_lays 28 = .ok (.aload_n 1, 1) := dget zdX9_lays_0 21 rfl
theorem dX9_lays_29 : decode cX9_lays 29 = .ok (.iload_n 2, 1) := dget zdX9_lays_0 22 rfl
theorem dX9_lays_30 : decode cX9_lays 30 = .ok (.bipush 49, 2) := dget zdX9_lays_0 23 rfl
theorem dX9_lays_32 : decode cX9_lays 32 = .ok (.iadd, 1) := dget zdX9_lays_0 24 rfl
theorem dX9_lays_33 : decode cX9_lays 33 = .ok (.iload_n 3, 1) := dget zdX9_lays_0 25 rfl
theorem dX9_lays_34 : decode cX9_lays 34 = .ok (.iadd, 1) := dget zdX9_lays_0 26 rfl
theorem dX9_lays_35 : decode cX9_lays 35 = .ok (.aload_n 0, 1) := dget zdX9_lays_0 27 rfl
theorem dX9_lays_36 : decode cX9_lays 36 = .ok (.getfield 13, 3) := dget zdX9_lays_0 28 rfl
theorem dX9_lays_39 : decode cX9_lays 39 = .ok (.iload_n 3, 1) := dget zdX9_lays_0 29 rfl
theorem dX9_lays_40 : decode cX9_lays 40 = .ok (.iaload, 1) := dget zdX9_lays_0 30 rfl
theorem dX9_lays_41 : decode cX9_lays 41 = .ok (.iastore, 1) := dget zdX9_lays_0 31 rfl
theorem dX9_lays_42 : decode cX9_lays 42 = .ok (.iinc 3 1, 3) := dget zdX9_lays_0 32 rfl
theorem dX9_lays_45 : decode cX9_lays 45 = .ok (.goto (-36), 3) := dget zdX9_lays_0 33 rfl
theorem dX9_lays_48 : decode cX9_lays 48 = .ok (.return_, 1) := dget zdX9_lays_0 34 rfl
theorem zdX9_takes_0 : dchk cX9_takes [(0, .aload_n 0, 1), (1, .aload_n 1, 1), (2, .iload_n 2, 1), (3, .iaload, 1), (4, .putfield 115, 3), (7, .iconst 0, 1), (8, .istore_n 3, 1), (9, .iload_n 3, 1), (10, .bipush 48, 2), (12, .if_icmp .ge 36, 3), (15, .aload_n 0, 1), (16, .getfield 7, 3), (19, .iload_n 3, 1), (20, .aload_n 1, 1), (21, .iload_n 2, 1), (22, .iconst 1, 1), (23, .iadd, 1), (24, .iload_n 3, 1), (25, .iadd, 1), (26, .iaload, 1), (27, .iastore, 1), (28, .aload_n 0, 1), (29, .getfield 13, 3), (32, .iload_n 3, 1), (33, .aload_n 1, 1), (34, .iload_n 2, 1), (35, .bipush 49, 2), (37, .iadd, 1), (38, .iload_n 3, 1), (39, .iadd, 1), (40, .iaload, 1), (41, .iastore, 1), (42, .iinc 3 1, 3), (45, .goto (-36), 3), (48, .return_, 1)] = true := by decide +kernel
theorem dX9_takes_0 : decode cX9_takes 0 = .ok (.aload_n 0, 1) := dget zdX9_takes_0 0 rfl
theorem dX9_takes_1 : decode cX9_takes 1 = .ok (.aload_n 1, 1) := dget zdX9_takes_0 1 rfl
theorem dX9_takes_2 : decode cX9_takes 2 = .ok (.iload_n 2, 1) := dget zdX9_takes_0 2 rfl
theorem dX9_takes_3 : decode cX9_takes 3 = .ok (.iaload, 1) := dget zdX9_takes_0 3 rfl
theorem dX9_takes_4 : decode cX9_takes 4 = .ok (.putfield 115, 3) := dget zdX9_takes_0 4 rfl
theorem dX9_takes_7 : decode cX9_takes 7 = .ok (.iconst 0, 1) := dget zdX9_takes_0 5 rfl
theorem dX9_takes_8 : decode cX9_takes 8 = .ok (.istore_n 3, 1) := dget zdX9_takes_0 6 rfl
theorem dX9_takes_9 : decode cX9_takes 9 = .ok (.iload_n 3, 1) := dget zdX9_takes_0 7 rfl
theorem dX9_takes_10 : decode cX9_takes 10 = .ok (.bipush 48, 2) := dget zdX9_takes_0 8 rfl
theorem dX9_takes_12 : decode cX9_takes 12 = .ok (.if_icmp .ge 36, 3) := dget zdX9_takes_0 9 rfl
theorem dX9_takes_15 : decode cX9_takes 15 = .ok (.aload_n 0, 1) := dget zdX9_takes_0 10 rfl
theorem dX9_takes_16 : decode cX9_takes 16 = .ok (.getfield 7, 3) := dget zdX9_takes_0 11 rfl
theorem dX9_takes_19 : decode cX9_takes 19 = .ok (.iload_n 3, 1) := dget zdX9_takes_0 12 rfl
theorem dX9_takes_20 : decode cX9_takes 20 = .ok (.aload_n 1, 1) := dget zdX9_takes_0 13 rfl
theorem dX9_takes_21 : decode cX9_takes 21 = .ok (.iload_n 2, 1) := dget zdX9_takes_0 14 rfl
theorem dX9_takes_22 : decode cX9_takes 22 = .ok (.iconst 1, 1) := dget zdX9_takes_0 15 rfl
theorem dX9_takes_23 : decode cX9_takes 23 = .ok (.iadd, 1) := dget zdX9_takes_0 16 rfl
theorem dX9_takes_24 : decode cX9_takes 24 = .ok (.iload_n 3, 1) := dget zdX9_takes_0 17 rfl
theorem dX9_takes_25 : decode cX9_takes 25 = .ok (.iadd, 1) := dget zdX9_takes_0 18 rfl
theorem dX9_takes_26 : decode cX9_takes 26 = .ok (.iaload, 1) := dget zdX9_takes_0 19 rfl
theorem dX9_takes_27 : decode cX9_takes 27 = .ok (.iastore, 1) := dget zdX9_takes_0 20 rfl
theorem dX9_takes_28 : decode cX9_takes 28 = .ok (.aload_n 0, 1) := dget zdX9_takes_0 21 rfl
theorem dX9_takes_29 : decode cX9_takes 29 = .ok (.getfield 13, 3) := dget zdX9_takes_0 22 rfl
theorem dX9_takes_32 : decode cX9_takes 32 = .ok (.iload_n 3, 1) := dget zdX9_takes_0 23 rfl
theorem dX9_takes_33 : decode cX9_takes 33 = .ok (.aload_n 1, 1) := dget zdX9_takes_0 24 rfl
theorem dX9_takes_34 : decode cX9_takes 34 = .ok (.iload_n 2, 1) := dget zdX9_takes_0 25 rfl
theorem dX9_takes_35 : decode cX9_takes 35 = .ok (.bipush 49, 2) := dget zdX9_takes_0 26 rfl
theorem dX9_takes_37 : decode cX9_takes 37 = .ok (.iadd, 1) := dget zdX9_takes_0 27 rfl
theorem dX9_takes_38 : decode cX9_takes 38 = .ok (.iload_n 3, 1) := dget zdX9_takes_0 28 rfl
theorem dX9_takes_39 : decode cX9_takes 39 = .ok (.iadd, 1) := dget zdX9_takes_0 29 rfl
theorem dX9_takes_40 : decode cX9_takes 40 = .ok (.iaload, 1) := dget zdX9_takes_0 30 rfl
theorem dX9_takes_41 : decode cX9_takes 41 = .ok (.iastore, 1) := dget zdX9_takes_0 31 rfl
theorem dX9_takes_42 : decode cX9_takes 42 = .ok (.iinc 3 1, 3) := dget zdX9_takes_0 32 rfl
theorem dX9_takes_45 : decode cX9_takes 45 = .ok (.goto (-36), 3) := dget zdX9_takes_0 33 rfl
theorem dX9_takes_48 : decode cX9_takes 48 = .ok (.return_, 1) := dget zdX9_takes_0 34 rfl
theorem zdX9_notes_0 : dchk cX9_notes [(0, .aload_n 0, 1), (1, .getfield 121, 3), (4, .bipush 8, 2), (6, .if_icmp .ne 43, 3), (9, .iconst 0, 1), (10, .istore_n 1, 1), (11, .iload_n 1, 1), (12, .sipush 679, 3), (15, .if_icmp .ge 24, 3), (18, .aload_n 0, 1), (19, .getfield 40, 3), (22, .iload_n 1, 1), (23, .aload_n 0, 1), (24, .getfield 40, 3), (27, .iload_n 1, 1), (28, .bipush 97, 2), (30, .iadd, 1), (31, .iaload, 1), (32, .iastore, 1), (33, .iinc 1 1, 3), (36, .goto (-25), 3), (39, .aload_n 0, 1), (40, .dup, 1), (41, .getfield 121, 3), (44, .iconst 1, 1), (45, .isub, 1), (46, .putfield 121, 3), (49, .aload_n 0, 1), (50, .aload_n 0, 1), (51, .getfield 40, 3), (54, .bipush 97, 2), (56, .aload_n 0, 1), (57, .getfield 121, 3), (60, .imul, 1), (61, .invokevirtual 148, 3), (64, .aload_n 0, 1), (65, .dup, 1), (66, .getfield 121, 3), (69, .iconst 1, 1), (70, .iadd, 1), (71, .putfield 121, 3), (74, .return_, 1)] = true := by decide +kernel
theorem dX9_notes_0 : decode cX9_notes 0 = .ok (.aload_n 0, 1) := dget zdX9_notes_0 0 rfl
theorem dX9_notes_1 : decode cX9_notes 1 = .ok (.getfield 121, 3) := dget zdX9_notes_0 1 rfl
theorem dX9_notes_4 : decode cX9_notes 4 = .ok (.bipush 8, 2) := dget zdX9_notes_0 2 rfl
theorem dX9_notes_6 : decode cX9_notes 6 = .ok (.if_icmp .ne 43, 3) := dget zdX9_notes_0 3 rfl
theorem dX9_notes_9 : decode cX9_notes 9 = .ok (.iconst 0, 1) := dget zdX9_notes_0 4 rfl
theorem dX9_notes_10 : decode cX9_notes 10 = .ok (.istore_n 1, 1) := dget zdX9_notes_0 5 rfl
theorem dX9_notes_11 : decode cX9_notes 11 = .ok (.iload_n 1, 1) := dget zdX9_notes_0 6 rfl
theorem dX9_notes_12 : decode cX9_notes 12 = .ok (.sipush 679, 3) := dget zdX9_notes_0 7 rfl
theorem dX9_notes_15 : decode cX9_notes 15 = .ok (.if_icmp .ge 24, 3) := dget zdX9_notes_0 8 rfl
theorem dX9_notes_18 : decode cX9_notes 18 = .ok (.aload_n 0, 1) := dget zdX9_notes_0 9 rfl
theorem dX9_notes_19 : decode cX9_notes 19 = .ok (.getfield 40, 3) := dget zdX9_notes_0 10 rfl
theorem dX9_notes_22 : decode cX9_notes 22 = .ok (.iload_n 1, 1) := dget zdX9_notes_0 11 rfl
theorem dX9_notes_23 : decode cX9_notes 23 = .ok (.aload_n 0, 1) := dget zdX9_notes_0 12 rfl
theorem dX9_notes_24 : decode cX9_notes 24 = .ok (.getfield 40, 3) := dget zdX9_notes_0 13 rfl
theorem dX9_notes_27 : decode cX9_notes 27 = .ok (.iload_n 1, 1) := dget zdX9_notes_0 14 rfl
theorem dX9_notes_28 : decode cX9_notes 28 = .ok (.bipush 97, 2) := dget zdX9_notes_0 15 rfl
theorem dX9_notes_30 : decode cX9_notes 30 = .ok (.iadd, 1) := dget zdX9_notes_0 16 rfl
theorem dX9_notes_31 : decode cX9_notes 31 = .ok (.iaload, 1) := dget zdX9_notes_0 17 rfl
theorem dX9_notes_32 : decode cX9_notes 32 = .ok (.iastore, 1) := dget zdX9_notes_0 18 rfl
theorem dX9_notes_33 : decode cX9_notes 33 = .ok (.iinc 1 1, 3) := dget zdX9_notes_0 19 rfl
theorem dX9_notes_36 : decode cX9_notes 36 = .ok (.goto (-25), 3) := dget zdX9_notes_0 20 rfl
theorem dX9_notes_39 : decode cX9_notes 39 = .ok (.aload_n 0, 1) := dget zdX9_notes_0 21 rfl
theorem dX9_notes_40 : decode cX9_notes 40 = .ok (.dup, 1) := dget zdX9_notes_0 22 rfl
theorem dX9_notes_41 : decode cX9_notes 41 = .ok (.getfield 121, 3) := dget zdX9_notes_0 23 rfl
theorem dX9_notes_44 : decode cX9_notes 44 = .ok (.iconst 1, 1) := dget zdX9_notes_0 24 rfl
theorem dX9_notes_45 : decode cX9_notes 45 = .ok (.isub, 1) := dget zdX9_notes_0 25 rfl
theorem dX9_notes_46 : decode cX9_notes 46 = .ok (.putfield 121, 3) := dget zdX9_notes_0 26 rfl
theorem dX9_notes_49 : decode cX9_notes 49 = .ok (.aload_n 0, 1) := dget zdX9_notes_0 27 rfl
theorem dX9_notes_50 : decode cX9_notes 50 = .ok (.aload_n 0, 1) := dget zdX9_notes_0 28 rfl
theorem dX9_notes_51 : decode cX9_notes 51 = .ok (.getfield 40, 3) := dget zdX9_notes_0 29 rfl
theorem dX9_notes_54 : decode cX9_notes 54 = .ok (.bipush 97, 2) := dget zdX9_notes_0 30 rfl
theorem dX9_notes_56 : decode cX9_notes 56 = .ok (.aload_n 0, 1) := dget zdX9_notes_0 31 rfl
theorem dX9_notes_57 : decode cX9_notes 57 = .ok (.getfield 121, 3) := dget zdX9_notes_0 32 rfl
theorem dX9_notes_60 : decode cX9_notes 60 = .ok (.imul, 1) := dget zdX9_notes_0 33 rfl
theorem dX9_notes_61 : decode cX9_notes 61 = .ok (.invokevirtual 148, 3) := dget zdX9_notes_0 34 rfl
theorem dX9_notes_64 : decode cX9_notes 64 = .ok (.aload_n 0, 1) := dget zdX9_notes_0 35 rfl
theorem dX9_notes_65 : decode cX9_notes 65 = .ok (.dup, 1) := dget zdX9_notes_0 36 rfl
theorem dX9_notes_66 : decode cX9_notes 66 = .ok (.getfield 121, 3) := dget zdX9_notes_0 37 rfl
theorem dX9_notes_69 : decode cX9_notes 69 = .ok (.iconst 1, 1) := dget zdX9_notes_0 38 rfl
theorem dX9_notes_70 : decode cX9_notes 70 = .ok (.iadd, 1) := dget zdX9_notes_0 39 rfl
theorem dX9_notes_71 : decode cX9_notes 71 = .ok (.putfield 121, 3) := dget zdX9_notes_0 40 rfl
theorem dX9_notes_74 : decode cX9_notes 74 = .ok (.return_, 1) := dget zdX9_notes_0 41 rfl
theorem zdX9_gives_0 : dchk cX9_gives [(0, .iconst 0, 1), (1, .istore_n 2, 1), (2, .iload_n 2, 1), (3, .aload_n 0, 1), (4, .getfield 60, 3), (7, .if_icmp .ge 32, 3), (10, .aload_n 0, 1), (11, .getfield 34, 3), (14, .iload_n 2, 1), (15, .iaload, 1), (16, .bipush (-4), 2), (18, .if_icmp .eq 15, 3), (21, .aload_n 0, 1), (22, .getfield 13, 3), (25, .aload_n 0, 1), (26, .getfield 34, 3), (29, .iload_n 2, 1), (30, .iaload, 1), (31, .iload_n 1, 1), (32, .iastore, 1), (33, .iinc 2 1, 3), (36, .goto (-34), 3), (39, .return_, 1)] = true := by decide +kernel
theorem dX9_gives_0 : decode cX9_gives 0 = .ok (.iconst 0, 1) := dget zdX9_gives_0 0 rfl
theorem dX9_gives_1 : decode cX9_gives 1 = .ok (.istore_n 2, 1) := dget zdX9_gives_0 1 rfl
theorem dX9_gives_2 : decode cX9_gives 2 = .ok (.iload_n 2, 1) := dget zdX9_gives_0 2 rfl
theorem dX9_gives_3 : decode cX9_gives 3 = .ok (.aload_n 0, 1) := dget zdX9_gives_0 3 rfl
theorem dX9_gives_4 : decode cX9_gives 4 = .ok (.getfield 60, 3) := dget zdX9_gives_0 4 rfl
theorem dX9_gives_7 : decode cX9_gives 7 = .ok (.if_icmp .ge 32, 3) := dget zdX9_gives_0 5 rfl
theorem dX9_gives_10 : decode cX9_gives 10 = .ok (.aload_n 0, 1) := dget zdX9_gives_0 6 rfl
theorem dX9_gives_11 : decode cX9_gives 11 = .ok (.getfield 34, 3) := dget zdX9_gives_0 7 rfl
theorem dX9_gives_14 : decode cX9_gives 14 = .ok (.iload_n 2, 1) := dget zdX9_gives_0 8 rfl
theorem dX9_gives_15 : decode cX9_gives 15 = .ok (.iaload, 1) := dget zdX9_gives_0 9 rfl
theorem dX9_gives_16 : decode cX9_gives 16 = .ok (.bipush (-4), 2) := dget zdX9_gives_0 10 rfl
theorem dX9_gives_18 : decode cX9_gives 18 = .ok (.if_icmp .eq 15, 3) := dget zdX9_gives_0 11 rfl
theorem dX9_gives_21 : decode cX9_gives 21 = .ok (.aload_n 0, 1) := dget zdX9_gives_0 12 rfl
theorem dX9_gives_22 : decode cX9_gives 22 = .ok (.getfield 13, 3) := dget zdX9_gives_0 13 rfl
theorem dX9_gives_25 : decode cX9_gives 25 = .ok (.aload_n 0, 1) := dget zdX9_gives_0 14 rfl
theorem dX9_gives_26 : decode cX9_gives 26 = .ok (.getfield 34, 3) := dget zdX9_gives_0 15 rfl
theorem dX9_gives_29 : decode cX9_gives 29 = .ok (.iload_n 2, 1) := dget zdX9_gives_0 16 rfl
theorem dX9_gives_30 : decode cX9_gives 30 = .ok (.iaload, 1) := dget zdX9_gives_0 17 rfl
theorem dX9_gives_31 : decode cX9_gives 31 = .ok (.iload_n 1, 1) := dget zdX9_gives_0 18 rfl
theorem dX9_gives_32 : decode cX9_gives 32 = .ok (.iastore, 1) := dget zdX9_gives_0 19 rfl
theorem dX9_gives_33 : decode cX9_gives 33 = .ok (.iinc 2 1, 3) := dget zdX9_gives_0 20 rfl
theorem dX9_gives_36 : decode cX9_gives 36 = .ok (.goto (-34), 3) := dget zdX9_gives_0 21 rfl
theorem dX9_gives_39 : decode cX9_gives 39 = .ok (.return_, 1) := dget zdX9_gives_0 22 rfl
theorem zdX9_slide_0 : dchk cX9_slide [(0, .iload_n 1, 1), (1, .invokestatic 141, 3), (4, .ifCond .eq 14, 3), (7, .aload_n 0, 1), (8, .iload_n 2, 1), (9, .iload_n 3, 1), (10, .iload 4, 2), (12, .invokevirtual 134, 3), (15, .ifCond .ne 5, 3), (18, .iconst (-1), 1), (19, .ireturn, 1), (20, .aload_n 0, 1), (21, .invokevirtual 152, 3), (24, .aload_n 0, 1), (25, .iload_n 2, 1), (26, .iload_n 3, 1), (27, .iload 4, 2), (29, .invokevirtual 137, 3), (32, .istore 5, 2), (34, .aload_n 0, 1), (35, .iload_n 1, 1), (36, .invokevirtual 155, 3), (39, .aload_n 0, 1), (40, .dup, 1), (41, .getfield 115, 3), (44, .iconst 1, 1), (45, .iadd, 1), (46, .putfield 115, 3), (49, .iload 5, 2), (51, .ireturn, 1)] = true := by decide +kernel
theorem dX9_slide_0 : decode cX9_slide 0 = .ok (.iload_n 1, 1) := dget zdX9_slide_0 0 rfl
theorem dX9_slide_1 : decode cX9_slide 1 = .ok (.invokestatic 141, 3) := dget zdX9_slide_0 1 rfl
theorem dX9_slide_4 : decode cX9_slide 4 = .ok (.ifCond .eq 14, 3) := dget zdX9_slide_0 2 rfl
theorem dX9_slide_7 : decode cX9_slide 7 = .ok (.aload_n 0, 1) := dget zdX9_slide_0 3 rfl
theorem dX9_slide_8 : decode cX9_slide 8 = .ok (.iload_n 2, 1) := dget zdX9_slide_0 4 rfl
theorem dX9_slide_9 : decode cX9_slide 9 = .ok (.iload_n 3, 1) := dget zdX9_slide_0 5 rfl
theorem dX9_slide_10 : decode cX9_slide 10 = .ok (.iload 4, 2) := dget zdX9_slide_0 6 rfl
theorem dX9_slide_12 : decode cX9_slide 12 = .ok (.invokevirtual 134, 3) := dget zdX9_slide_0 7 rfl
theorem dX9_slide_15 : decode cX9_slide 15 = .ok (.ifCond .ne 5, 3) := dget zdX9_slide_0 8 rfl
theorem dX9_slide_18 : decode cX9_slide 18 = .ok (.iconst (-1), 1) := dget zdX9_slide_0 9 rfl
theorem dX9_slide_19 : decode cX9_slide 19 = .ok (.ireturn, 1) := dget zdX9_slide_0 10 rfl
theorem dX9_slide_20 : decode cX9_slide 20 = .ok (.aload_n 0, 1) := dget zdX9_slide_0 11 rfl
theorem dX9_slide_21 : decode cX9_slide 21 = .ok (.invokevirtual 152, 3) := dget zdX9_slide_0 12 rfl
theorem dX9_slide_24 : decode cX9_slide 24 = .ok (.aload_n 0, 1) := dget zdX9_slide_0 13 rfl
theorem dX9_slide_25 : decode cX9_slide 25 = .ok (.iload_n 2, 1) := dget zdX9_slide_0 14 rfl
theorem dX9_slide_26 : decode cX9_slide 26 = .ok (.iload_n 3, 1) := dget zdX9_slide_0 15 rfl
theorem dX9_slide_27 : decode cX9_slide 27 = .ok (.iload 4, 2) := dget zdX9_slide_0 16 rfl
theorem dX9_slide_29 : decode cX9_slide 29 = .ok (.invokevirtual 137, 3) := dget zdX9_slide_0 17 rfl
theorem dX9_slide_32 : decode cX9_slide 32 = .ok (.istore 5, 2) := dget zdX9_slide_0 18 rfl
theorem dX9_slide_34 : decode cX9_slide 34 = .ok (.aload_n 0, 1) := dget zdX9_slide_0 19 rfl
theorem dX9_slide_35 : decode cX9_slide 35 = .ok (.iload_n 1, 1) := dget zdX9_slide_0 20 rfl
theorem dX9_slide_36 : decode cX9_slide 36 = .ok (.invokevirtual 155, 3) := dget zdX9_slide_0 21 rfl
theorem dX9_slide_39 : decode cX9_slide 39 = .ok (.aload_n 0, 1) := dget zdX9_slide_0 22 rfl
theorem dX9_slide_40 : decode cX9_slide 40 = .ok (.dup, 1) := dget zdX9_slide_0 23 rfl
theorem dX9_slide_41 : decode cX9_slide 41 = .ok (.getfield 115, 3) := dget zdX9_slide_0 24 rfl
theorem dX9_slide_44 : decode cX9_slide 44 = .ok (.iconst 1, 1) := dget zdX9_slide_0 25 rfl
theorem dX9_slide_45 : decode cX9_slide 45 = .ok (.iadd, 1) := dget zdX9_slide_0 26 rfl
theorem dX9_slide_46 : decode cX9_slide 46 = .ok (.putfield 115, 3) := dget zdX9_slide_0 27 rfl
theorem dX9_slide_49 : decode cX9_slide 49 = .ok (.iload 5, 2) := dget zdX9_slide_0 28 rfl
theorem dX9_slide_51 : decode cX9_slide 51 = .ok (.ireturn, 1) := dget zdX9_slide_0 29 rfl
theorem zdX9_dig_0 : dchk cX9_dig [(0, .aload_n 0, 1), (1, .iload_n 1, 1), (2, .invokevirtual 131, 3), (5, .ifCond .eq 12, 3), (8, .iload_n 2, 1), (9, .iconst 0, 1), (10, .iconst 3, 1), (11, .invokestatic 67, 3), (14, .ifCond .ne 5, 3), (17, .iconst (-1), 1), (18, .ireturn, 1), (19, .aload_n 0, 1), (20, .getfield 7, 3), (23, .iload_n 1, 1), (24, .iaload, 1), (25, .istore_n 3, 1), (26, .iload_n 3, 1), (27, .iload_n 2, 1), (28, .if_icmp .ne 6, 3), (31, .bipush (-2), 2), (33, .ireturn, 1), (34, .aload_n 0, 1), (35, .invokevirtual 152, 3), (38, .aload_n 0, 1), (39, .getfield 7, 3), (42, .iload_n 1, 1), (43, .iload_n 2, 1), (44, .iastore, 1), (45, .iload_n 3, 1), (46, .ireturn, 1)] = true := by decide +kernel
theorem dX9_dig_0 : decode cX9_dig 0 = .ok (.aload_n 0, 1) := dget zdX9_dig_0 0 rfl
theorem dX9_dig_1 : decode cX9_dig 1 = .ok (.iload_n 1, 1) := dget zdX9_dig_0 1 rfl
theorem dX9_dig_2 : decode cX9_dig 2 = .ok (.invokevirtual 131, 3) := dget zdX9_dig_0 2 rfl
theorem dX9_dig_5 : decode cX9_dig 5 = .ok (.ifCond .eq 12, 3) := dget zdX9_dig_0 3 rfl
theorem dX9_dig_8 : decode cX9_dig 8 = .ok (.iload_n 2, 1) := dget zdX9_dig_0 4 rfl
theorem dX9_dig_9 : decode cX9_dig 9 = .ok (.iconst 0, 1) := dget zdX9_dig_0 5 rfl
theorem dX9_dig_10 : decode cX9_dig 10 = .ok (.iconst 3, 1) := dget zdX9_dig_0 6 rfl
theorem dX9_dig_11 : decode cX9_dig 11 = .ok (.invokestatic 67, 3) := dget zdX9_dig_0 7 rfl
theorem dX9_dig_14 : decode cX9_dig 14 = .ok (.ifCond .ne 5, 3) := dget zdX9_dig_0 8 rfl
theorem dX9_dig_17 : decode cX9_dig 17 = .ok (.iconst (-1), 1) := dget zdX9_dig_0 9 rfl
theorem dX9_dig_18 : decode cX9_dig 18 = .ok (.ireturn, 1) := dget zdX9_dig_0 10 rfl
theorem dX9_dig_19 : decode cX9_dig 19 = .ok (.aload_n 0, 1) := dget zdX9_dig_0 11 rfl
theorem dX9_dig_20 : decode cX9_dig 20 = .ok (.getfield 7, 3) := dget zdX9_dig_0 12 rfl
theorem dX9_dig_23 : decode cX9_dig 23 = .ok (.iload_n 1, 1) := dget zdX9_dig_0 13 rfl
theorem dX9_dig_24 : decode cX9_dig 24 = .ok (.iaload, 1) := dget zdX9_dig_0 14 rfl
theorem dX9_dig_25 : decode cX9_dig 25 = .ok (.istore_n 3, 1) := dget zdX9_dig_0 15 rfl
theorem dX9_dig_26 : decode cX9_dig 26 = .ok (.iload_n 3, 1) := dget zdX9_dig_0 16 rfl
theorem dX9_dig_27 : decode cX9_dig 27 = .ok (.iload_n 2, 1) := dget zdX9_dig_0 17 rfl
theorem dX9_dig_28 : decode cX9_dig 28 = .ok (.if_icmp .ne 6, 3) := dget zdX9_dig_0 18 rfl
theorem dX9_dig_31 : decode cX9_dig 31 = .ok (.bipush (-2), 2) := dget zdX9_dig_0 19 rfl
theorem dX9_dig_33 : decode cX9_dig 33 = .ok (.ireturn, 1) := dget zdX9_dig_0 20 rfl
theorem dX9_dig_34 : decode cX9_dig 34 = .ok (.aload_n 0, 1) := dget zdX9_dig_0 21 rfl
theorem dX9_dig_35 : decode cX9_dig 35 = .ok (.invokevirtual 152, 3) := dget zdX9_dig_0 22 rfl
theorem dX9_dig_38 : decode cX9_dig 38 = .ok (.aload_n 0, 1) := dget zdX9_dig_0 23 rfl
theorem dX9_dig_39 : decode cX9_dig 39 = .ok (.getfield 7, 3) := dget zdX9_dig_0 24 rfl
theorem dX9_dig_42 : decode cX9_dig 42 = .ok (.iload_n 1, 1) := dget zdX9_dig_0 25 rfl
theorem dX9_dig_43 : decode cX9_dig 43 = .ok (.iload_n 2, 1) := dget zdX9_dig_0 26 rfl
theorem dX9_dig_44 : decode cX9_dig 44 = .ok (.iastore, 1) := dget zdX9_dig_0 27 rfl
theorem dX9_dig_45 : decode cX9_dig 45 = .ok (.iload_n 3, 1) := dget zdX9_dig_0 28 rfl
theorem dX9_dig_46 : decode cX9_dig 46 = .ok (.ireturn, 1) := dget zdX9_dig_0 29 rfl
theorem zdX9_give_0 : dchk cX9_give [(0, .aload_n 0, 1), (1, .iload_n 1, 1), (2, .invokevirtual 131, 3), (5, .ifCond .eq 12, 3), (8, .iload_n 2, 1), (9, .iconst 0, 1), (10, .iconst 4, 1), (11, .invokestatic 67, 3), (14, .ifCond .ne 5, 3), (17, .iconst (-1), 1), (18, .ireturn, 1), (19, .aload_n 0, 1), (20, .getfield 13, 3), (23, .iload_n 1, 1), (24, .iaload, 1), (25, .istore_n 3, 1), (26, .iload_n 2, 1), (27, .iconst 4, 1), (28, .if_icmp .ne 8, 3), (31, .bipush (-4), 2), (33, .goto 4, 3), (36, .iload_n 2, 1), (37, .istore 4, 2), (39, .iload_n 3, 1), (40, .iload 4, 2), (42, .if_icmp .ne 6, 3), (45, .bipush (-2), 2), (47, .ireturn, 1), (48, .aload_n 0, 1), (49, .invokevirtual 152, 3), (52, .aload_n 0, 1), (53, .getfield 13, 3), (56, .iload_n 1, 1), (57, .iload 4, 2), (59, .iastore, 1), (60, .iload_n 3, 1), (61, .ireturn, 1)] = true := by decide +kernel
theorem dX9_give_0 : decode cX9_give 0 = .ok (.aload_n 0, 1) := dget zdX9_give_0 0 rfl
theorem dX9_give_1 : decode cX9_give 1 = .ok (.iload_n 1, 1) := dget zdX9_give_0 1 rfl
theorem dX9_give_2 : decode cX9_give 2 = .ok (.invokevirtual 131, 3) := dget zdX9_give_0 2 rfl
theorem dX9_give_5 : decode cX9_give 5 = .ok (.ifCond .eq 12, 3) := dget zdX9_give_0 3 rfl
theorem dX9_give_8 : decode cX9_give 8 = .ok (.iload_n 2, 1) := dget zdX9_give_0 4 rfl
theorem dX9_give_9 : decode cX9_give 9 = .ok (.iconst 0, 1) := dget zdX9_give_0 5 rfl
theorem dX9_give_10 : decode cX9_give 10 = .ok (.iconst 4, 1) := dget zdX9_give_0 6 rfl
theorem dX9_give_11 : decode cX9_give 11 = .ok (.invokestatic 67, 3) := dget zdX9_give_0 7 rfl
theorem dX9_give_14 : decode cX9_give 14 = .ok (.ifCond .ne 5, 3) := dget zdX9_give_0 8 rfl
theorem dX9_give_17 : decode cX9_give 17 = .ok (.iconst (-1), 1) := dget zdX9_give_0 9 rfl
theorem dX9_give_18 : decode cX9_give 18 = .ok (.ireturn, 1) := dget zdX9_give_0 10 rfl
theorem dX9_give_19 : decode cX9_give 19 = .ok (.aload_n 0, 1) := dget zdX9_give_0 11 rfl
theorem dX9_give_20 : decode cX9_give 20 = .ok (.getfield 13, 3) := dget zdX9_give_0 12 rfl
theorem dX9_give_23 : decode cX9_give 23 = .ok (.iload_n 1, 1) := dget zdX9_give_0 13 rfl
theorem dX9_give_24 : decode cX9_give 24 = .ok (.iaload, 1) := dget zdX9_give_0 14 rfl
theorem dX9_give_25 : decode cX9_give 25 = .ok (.istore_n 3, 1) := dget zdX9_give_0 15 rfl
theorem dX9_give_26 : decode cX9_give 26 = .ok (.iload_n 2, 1) := dget zdX9_give_0 16 rfl
theorem dX9_give_27 : decode cX9_give 27 = .ok (.iconst 4, 1) := dget zdX9_give_0 17 rfl
theorem dX9_give_28 : decode cX9_give 28 = .ok (.if_icmp .ne 8, 3) := dget zdX9_give_0 18 rfl
theorem dX9_give_31 : decode cX9_give 31 = .ok (.bipush (-4), 2) := dget zdX9_give_0 19 rfl
theorem dX9_give_33 : decode cX9_give 33 = .ok (.goto 4, 3) := dget zdX9_give_0 20 rfl
theorem dX9_give_36 : decode cX9_give 36 = .ok (.iload_n 2, 1) := dget zdX9_give_0 21 rfl
theorem dX9_give_37 : decode cX9_give 37 = .ok (.istore 4, 2) := dget zdX9_give_0 22 rfl
theorem dX9_give_39 : decode cX9_give 39 = .ok (.iload_n 3, 1) := dget zdX9_give_0 23 rfl
theorem dX9_give_40 : decode cX9_give 40 = .ok (.iload 4, 2) := dget zdX9_give_0 24 rfl
theorem dX9_give_42 : decode cX9_give 42 = .ok (.if_icmp .ne 6, 3) := dget zdX9_give_0 25 rfl
theorem dX9_give_45 : decode cX9_give 45 = .ok (.bipush (-2), 2) := dget zdX9_give_0 26 rfl
theorem dX9_give_47 : decode cX9_give 47 = .ok (.ireturn, 1) := dget zdX9_give_0 27 rfl
theorem dX9_give_48 : decode cX9_give 48 = .ok (.aload_n 0, 1) := dget zdX9_give_0 28 rfl
theorem dX9_give_49 : decode cX9_give 49 = .ok (.invokevirtual 152, 3) := dget zdX9_give_0 29 rfl
theorem dX9_give_52 : decode cX9_give 52 = .ok (.aload_n 0, 1) := dget zdX9_give_0 30 rfl
theorem dX9_give_53 : decode cX9_give 53 = .ok (.getfield 13, 3) := dget zdX9_give_0 31 rfl
theorem dX9_give_56 : decode cX9_give 56 = .ok (.iload_n 1, 1) := dget zdX9_give_0 32 rfl
theorem dX9_give_57 : decode cX9_give 57 = .ok (.iload 4, 2) := dget zdX9_give_0 33 rfl
theorem dX9_give_59 : decode cX9_give 59 = .ok (.iastore, 1) := dget zdX9_give_0 34 rfl
theorem dX9_give_60 : decode cX9_give 60 = .ok (.iload_n 3, 1) := dget zdX9_give_0 35 rfl
theorem dX9_give_61 : decode cX9_give 61 = .ok (.ireturn, 1) := dget zdX9_give_0 36 rfl
theorem zdX9_frozen_0 : dchk cX9_frozen [(0, .iload_n 0, 1), (1, .ifCond .ne 7, 3), (4, .iconst 1, 1), (5, .goto 13, 3), (8, .iload_n 0, 1), (9, .iconst 2, 1), (10, .if_icmp .ne 7, 3), (13, .iconst 0, 1), (14, .goto 4, 3), (17, .iload_n 0, 1), (18, .ireturn, 1)] = true := by decide +kernel
theorem dX9_frozen_0 : decode cX9_frozen 0 = .ok (.iload_n 0, 1) := dget zdX9_frozen_0 0 rfl
theorem dX9_frozen_1 : decode cX9_frozen 1 = .ok (.ifCond .ne 7, 3) := dget zdX9_frozen_0 1 rfl
theorem dX9_frozen_4 : decode cX9_frozen 4 = .ok (.iconst 1, 1) := dget zdX9_frozen_0 2 rfl
theorem dX9_frozen_5 : decode cX9_frozen 5 = .ok (.goto 13, 3) := dget zdX9_frozen_0 3 rfl
theorem dX9_frozen_8 : decode cX9_frozen 8 = .ok (.iload_n 0, 1) := dget zdX9_frozen_0 4 rfl
theorem dX9_frozen_9 : decode cX9_frozen 9 = .ok (.iconst 2, 1) := dget zdX9_frozen_0 5 rfl
theorem dX9_frozen_10 : decode cX9_frozen 10 = .ok (.if_icmp .ne 7, 3) := dget zdX9_frozen_0 6 rfl
theorem dX9_frozen_13 : decode cX9_frozen 13 = .ok (.iconst 0, 1) := dget zdX9_frozen_0 7 rfl
theorem dX9_frozen_14 : decode cX9_frozen 14 = .ok (.goto 4, 3) := dget zdX9_frozen_0 8 rfl
theorem dX9_frozen_17 : decode cX9_frozen 17 = .ok (.iload_n 0, 1) := dget zdX9_frozen_0 9 rfl
theorem dX9_frozen_18 : decode cX9_frozen 18 = .ok (.ireturn, 1) := dget zdX9_frozen_0 10 rfl
theorem zdX9_others_0 : dchk cX9_others [(0, .iconst 0, 1), (1, .istore_n 2, 1), (2, .iconst 0, 1), (3, .istore_n 3, 1), (4, .iload_n 3, 1), (5, .aload_n 0, 1), (6, .getfield 52, 3), (9, .if_icmp .ge 42, 3), (12, .aload_n 0, 1), (13, .getfield 7, 3), (16, .aload_n 0, 1), (17, .getfield 52, 3), (20, .iload_n 1, 1), (21, .imul, 1), (22, .iload_n 3, 1), (23, .iadd, 1), (24, .iaload, 1), (25, .istore 4, 2), (27, .iload_n 2, 1), (28, .iload 4, 2), (30, .invokestatic 158, 3), (33, .iload 4, 2), (35, .if_icmp .ne 7, 3), (38, .iconst 0, 1), (39, .goto 4, 3), (42, .iconst 1, 1), (43, .iadd, 1), (44, .istore_n 2, 1), (45, .iinc 3 1, 3), (48, .goto (-44), 3), (51, .iload_n 2, 1), (52, .ireturn, 1)] = true := by decide +kernel
theorem dX9_others_0 : decode cX9_others 0 = .ok (.iconst 0, 1) := dget zdX9_others_0 0 rfl
theorem dX9_others_1 : decode cX9_others 1 = .ok (.istore_n 2, 1) := dget zdX9_others_0 1 rfl
theorem dX9_others_2 : decode cX9_others 2 = .ok (.iconst 0, 1) := dget zdX9_others_0 2 rfl
theorem dX9_others_3 : decode cX9_others 3 = .ok (.istore_n 3, 1) := dget zdX9_others_0 3 rfl
theorem dX9_others_4 : decode cX9_others 4 = .ok (.iload_n 3, 1) := dget zdX9_others_0 4 rfl
theorem dX9_others_5 : decode cX9_others 5 = .ok (.aload_n 0, 1) := dget zdX9_others_0 5 rfl
theorem dX9_others_6 : decode cX9_others 6 = .ok (.getfield 52, 3) := dget zdX9_others_0 6 rfl
theorem dX9_others_9 : decode cX9_others 9 = .ok (.if_icmp .ge 42, 3) := dget zdX9_others_0 7 rfl
theorem dX9_others_12 : decode cX9_others 12 = .ok (.aload_n 0, 1) := dget zdX9_others_0 8 rfl
theorem dX9_others_13 : decode cX9_others 13 = .ok (.getfield 7, 3) := dget zdX9_others_0 9 rfl
theorem dX9_others_16 : decode cX9_others 16 = .ok (.aload_n 0, 1) := dget zdX9_others_0 10 rfl
theorem dX9_others_17 : decode cX9_others 17 = .ok (.getfield 52, 3) := dget zdX9_others_0 11 rfl
theorem dX9_others_20 : decode cX9_others 20 = .ok (.iload_n 1, 1) := dget zdX9_others_0 12 rfl
theorem dX9_others_21 : decode cX9_others 21 = .ok (.imul, 1) := dget zdX9_others_0 13 rfl
theorem dX9_others_22 : decode cX9_others 22 = .ok (.iload_n 3, 1) := dget zdX9_others_0 14 rfl
theorem dX9_others_23 : decode cX9_others 23 = .ok (.iadd, 1) := dget zdX9_others_0 15 rfl
theorem dX9_others_24 : decode cX9_others 24 = .ok (.iaload, 1) := dget zdX9_others_0 16 rfl
theorem dX9_others_25 : decode cX9_others 25 = .ok (.istore 4, 2) := dget zdX9_others_0 17 rfl
theorem dX9_others_27 : decode cX9_others 27 = .ok (.iload_n 2, 1) := dget zdX9_others_0 18 rfl
theorem dX9_others_28 : decode cX9_others 28 = .ok (.iload 4, 2) := dget zdX9_others_0 19 rfl
theorem dX9_others_30 : decode cX9_others 30 = .ok (.invokestatic 158, 3) := dget zdX9_others_0 20 rfl
theorem dX9_others_33 : decode cX9_others 33 = .ok (.iload 4, 2) := dget zdX9_others_0 21 rfl
theorem dX9_others_35 : decode cX9_others 35 = .ok (.if_icmp .ne 7, 3) := dget zdX9_others_0 22 rfl
theorem dX9_others_38 : decode cX9_others 38 = .ok (.iconst 0, 1) := dget zdX9_others_0 23 rfl
theorem dX9_others_39 : decode cX9_others 39 = .ok (.goto 4, 3) := dget zdX9_others_0 24 rfl
theorem dX9_others_42 : decode cX9_others 42 = .ok (.iconst 1, 1) := dget zdX9_others_0 25 rfl
theorem dX9_others_43 : decode cX9_others 43 = .ok (.iadd, 1) := dget zdX9_others_0 26 rfl
theorem dX9_others_44 : decode cX9_others 44 = .ok (.istore_n 2, 1) := dget zdX9_others_0 27 rfl
theorem dX9_others_45 : decode cX9_others 45 = .ok (.iinc 3 1, 3) := dget zdX9_others_0 28 rfl
theorem dX9_others_48 : decode cX9_others 48 = .ok (.goto (-44), 3) := dget zdX9_others_0 29 rfl
theorem dX9_others_51 : decode cX9_others 51 = .ok (.iload_n 2, 1) := dget zdX9_others_0 30 rfl
theorem dX9_others_52 : decode cX9_others 52 = .ok (.ireturn, 1) := dget zdX9_others_0 31 rfl
theorem zdX9_freezes_0 : dchk cX9_freezes [(0, .iconst 0, 1), (1, .istore_n 2, 1), (2, .iload_n 2, 1), (3, .aload_n 0, 1), (4, .getfield 52, 3), (7, .if_icmp .ge 38, 3), (10, .aload_n 0, 1), (11, .getfield 7, 3), (14, .aload_n 0, 1), (15, .getfield 52, 3), (18, .iload_n 1, 1), (19, .imul, 1), (20, .iload_n 2, 1), (21, .iadd, 1), (22, .aload_n 0, 1), (23, .getfield 7, 3), (26, .aload_n 0, 1), (27, .getfield 52, 3), (30, .iload_n 1, 1), (31, .imul, 1), (32, .iload_n 2, 1), (33, .iadd, 1), (34, .iaload, 1), (35, .invokestatic 158, 3), (38, .iastore, 1), (39, .iinc 2 1, 3), (42, .goto (-40), 3), (45, .return_, 1)] = true := by decide +kernel
theorem dX9_freezes_0 : decode cX9_freezes 0 = .ok (.iconst 0, 1) := dget zdX9_freezes_0 0 rfl
theorem dX9_freezes_1 : decode cX9_freezes 1 = .ok (.istore_n 2, 1) := dget zdX9_freezes_0 1 rfl
theorem dX9_freezes_2 : decode cX9_freezes 2 = .ok (.iload_n 2, 1) := dget zdX9_freezes_0 2 rfl
theorem dX9_freezes_3 : decode cX9_freezes 3 = .ok (.aload_n 0, 1) := dget zdX9_freezes_0 3 rfl
theorem dX9_freezes_4 : decode cX9_freezes 4 = .ok (.getfield 52, 3) := dget zdX9_freezes_0 4 rfl
theorem dX9_freezes_7 : decode cX9_freezes 7 = .ok (.if_icmp .ge 38, 3) := dget zdX9_freezes_0 5 rfl
theorem dX9_freezes_10 : decode cX9_freezes 10 = .ok (.aload_n 0, 1) := dget zdX9_freezes_0 6 rfl
theorem dX9_freezes_11 : decode cX9_freezes 11 = .ok (.getfield 7, 3) := dget zdX9_freezes_0 7 rfl
theorem dX9_freezes_14 : decode cX9_freezes 14 = .ok (.aload_n 0, 1) := dget zdX9_freezes_0 8 rfl
theorem dX9_freezes_15 : decode cX9_freezes 15 = .ok (.getfield 52, 3) := dget zdX9_freezes_0 9 rfl
theorem dX9_freezes_18 : decode cX9_freezes 18 = .ok (.iload_n 1, 1) := dget zdX9_freezes_0 10 rfl
theorem dX9_freezes_19 : decode cX9_freezes 19 = .ok (.imul, 1) := dget zdX9_freezes_0 11 rfl
theorem dX9_freezes_20 : decode cX9_freezes 20 = .ok (.iload_n 2, 1) := dget zdX9_freezes_0 12 rfl
theorem dX9_freezes_21 : decode cX9_freezes 21 = .ok (.iadd, 1) := dget zdX9_freezes_0 13 rfl
theorem dX9_freezes_22 : decode cX9_freezes 22 = .ok (.aload_n 0, 1) := dget zdX9_freezes_0 14 rfl
theorem dX9_freezes_23 : decode cX9_freezes 23 = .ok (.getfield 7, 3) := dget zdX9_freezes_0 15 rfl
theorem dX9_freezes_26 : decode cX9_freezes 26 = .ok (.aload_n 0, 1) := dget zdX9_freezes_0 16 rfl
theorem dX9_freezes_27 : decode cX9_freezes 27 = .ok (.getfield 52, 3) := dget zdX9_freezes_0 17 rfl
theorem dX9_freezes_30 : decode cX9_freezes 30 = .ok (.iload_n 1, 1) := dget zdX9_freezes_0 18 rfl
theorem dX9_freezes_31 : decode cX9_freezes 31 = .ok (.imul, 1) := dget zdX9_freezes_0 19 rfl
theorem dX9_freezes_32 : decode cX9_freezes 32 = .ok (.iload_n 2, 1) := dget zdX9_freezes_0 20 rfl
theorem dX9_freezes_33 : decode cX9_freezes 33 = .ok (.iadd, 1) := dget zdX9_freezes_0 21 rfl
theorem dX9_freezes_34 : decode cX9_freezes 34 = .ok (.iaload, 1) := dget zdX9_freezes_0 22 rfl
theorem dX9_freezes_35 : decode cX9_freezes 35 = .ok (.invokestatic 158, 3) := dget zdX9_freezes_0 23 rfl
theorem dX9_freezes_38 : decode cX9_freezes 38 = .ok (.iastore, 1) := dget zdX9_freezes_0 24 rfl
theorem dX9_freezes_39 : decode cX9_freezes 39 = .ok (.iinc 2 1, 3) := dget zdX9_freezes_0 25 rfl
theorem dX9_freezes_42 : decode cX9_freezes 42 = .ok (.goto (-40), 3) := dget zdX9_freezes_0 26 rfl
theorem dX9_freezes_45 : decode cX9_freezes 45 = .ok (.return_, 1) := dget zdX9_freezes_0 27 rfl
theorem zdX9_frost_0 : dchk cX9_frost [(0, .iload_n 1, 1), (1, .iconst 0, 1), (2, .aload_n 0, 1), (3, .getfield 60, 3), (6, .iconst 1, 1), (7, .isub, 1), (8, .invokestatic 67, 3), (11, .ifCond .ne 5, 3), (14, .iconst (-1), 1), (15, .ireturn, 1), (16, .aload_n 0, 1), (17, .iload_n 1, 1), (18, .invokevirtual 161, 3), (21, .istore_n 2, 1), (22, .iload_n 2, 1), (23, .ifCond .ne 6, 3), (26, .bipush (-2), 2), (28, .ireturn, 1), (29, .aload_n 0, 1), (30, .invokevirtual 152, 3), (33, .aload_n 0, 1), (34, .iload_n 1, 1), (35, .invokevirtual 164, 3), (38, .iload_n 2, 1), (39, .ireturn, 1)] = true := by decide +kernel
theorem dX9_frost_0 : decode cX9_frost 0 = .ok (.iload_n 1, 1) := dget zdX9_frost_0 0 rfl
theorem dX9_frost_1 : decode cX9_frost 1 = .ok (.iconst 0, 1) := dget zdX9_frost_0 1 rfl
theorem dX9_frost_2 : decode cX9_frost 2 = .ok (.aload_n 0, 1) := dget zdX9_frost_0 2 rfl
theorem dX9_frost_3 : decode cX9_frost 3 = .ok (.getfield 60, 3) := dget zdX9_frost_0 3 rfl
theorem dX9_frost_6 : decode cX9_frost 6 = .ok (.iconst 1, 1) := dget zdX9_frost_0 4 rfl
theorem dX9_frost_7 : decode cX9_frost 7 = .ok (.isub, 1) := dget zdX9_frost_0 5 rfl
theorem dX9_frost_8 : decode cX9_frost 8 = .ok (.invokestatic 67, 3) := dget zdX9_frost_0 6 rfl
theorem dX9_frost_11 : decode cX9_frost 11 = .ok (.ifCond .ne 5, 3) := dget zdX9_frost_0 7 rfl
theorem dX9_frost_14 : decode cX9_frost 14 = .ok (.iconst (-1), 1) := dget zdX9_frost_0 8 rfl
theorem dX9_frost_15 : decode cX9_frost 15 = .ok (.ireturn, 1) := dget zdX9_frost_0 9 rfl
theorem dX9_frost_16 : decode cX9_frost 16 = .ok (.aload_n 0, 1) := dget zdX9_frost_0 10 rfl
theorem dX9_frost_17 : decode cX9_frost 17 = .ok (.iload_n 1, 1) := dget zdX9_frost_0 11 rfl
theorem dX9_frost_18 : decode cX9_frost 18 = .ok (.invokevirtual 161, 3) := dget zdX9_frost_0 12 rfl
theorem dX9_frost_21 : decode cX9_frost 21 = .ok (.istore_n 2, 1) := dget zdX9_frost_0 13 rfl
theorem dX9_frost_22 : decode cX9_frost 22 = .ok (.iload_n 2, 1) := dget zdX9_frost_0 14 rfl
theorem dX9_frost_23 : decode cX9_frost 23 = .ok (.ifCond .ne 6, 3) := dget zdX9_frost_0 15 rfl
theorem dX9_frost_26 : decode cX9_frost 26 = .ok (.bipush (-2), 2) := dget zdX9_frost_0 16 rfl
theorem dX9_frost_28 : decode cX9_frost 28 = .ok (.ireturn, 1) := dget zdX9_frost_0 17 rfl
theorem dX9_frost_29 : decode cX9_frost 29 = .ok (.aload_n 0, 1) := dget zdX9_frost_0 18 rfl
theorem dX9_frost_30 : decode cX9_frost 30 = .ok (.invokevirtual 152, 3) := dget zdX9_frost_0 19 rfl
theorem dX9_frost_33 : decode cX9_frost 33 = .ok (.aload_n 0, 1) := dget zdX9_frost_0 20 rfl
theorem dX9_frost_34 : decode cX9_frost 34 = .ok (.iload_n 1, 1) := dget zdX9_frost_0 21 rfl
theorem dX9_frost_35 : decode cX9_frost 35 = .ok (.invokevirtual 164, 3) := dget zdX9_frost_0 22 rfl
theorem dX9_frost_38 : decode cX9_frost 38 = .ok (.iload_n 2, 1) := dget zdX9_frost_0 23 rfl
theorem dX9_frost_39 : decode cX9_frost 39 = .ok (.ireturn, 1) := dget zdX9_frost_0 24 rfl
theorem zdX9_undo_0 : dchk cX9_undo [(0, .aload_n 0, 1), (1, .getfield 121, 3), (4, .ifCond .ne 6, 3), (7, .bipush (-2), 2), (9, .ireturn, 1), (10, .aload_n 0, 1), (11, .dup, 1), (12, .getfield 121, 3), (15, .iconst 1, 1), (16, .isub, 1), (17, .putfield 121, 3), (20, .aload_n 0, 1), (21, .aload_n 0, 1), (22, .getfield 40, 3), (25, .bipush 97, 2), (27, .aload_n 0, 1), (28, .getfield 121, 3), (31, .imul, 1), (32, .invokevirtual 167, 3), (35, .aload_n 0, 1), (36, .getfield 121, 3), (39, .ireturn, 1)] = true := by decide +kernel
theorem dX9_undo_0 : decode cX9_undo 0 = .ok (.aload_n 0, 1) := dget zdX9_undo_0 0 rfl
theorem dX9_undo_1 : decode cX9_undo 1 = .ok (.getfield 121, 3) := dget zdX9_undo_0 1 rfl
theorem dX9_undo_4 : decode cX9_undo 4 = .ok (.ifCond .ne 6, 3) := dget zdX9_undo_0 2 rfl
theorem dX9_undo_7 : decode cX9_undo 7 = .ok (.bipush (-2), 2) := dget zdX9_undo_0 3 rfl
theorem dX9_undo_9 : decode cX9_undo 9 = .ok (.ireturn, 1) := dget zdX9_undo_0 4 rfl
theorem dX9_undo_10 : decode cX9_undo 10 = .ok (.aload_n 0, 1) := dget zdX9_undo_0 5 rfl
theorem dX9_undo_11 : decode cX9_undo 11 = .ok (.dup, 1) := dget zdX9_undo_0 6 rfl
theorem dX9_undo_12 : decode cX9_undo 12 = .ok (.getfield 121, 3) := dget zdX9_undo_0 7 rfl
theorem dX9_undo_15 : decode cX9_undo 15 = .ok (.iconst 1, 1) := dget zdX9_undo_0 8 rfl
theorem dX9_undo_16 : decode cX9_undo 16 = .ok (.isub, 1) := dget zdX9_undo_0 9 rfl
theorem dX9_undo_17 : decode cX9_undo 17 = .ok (.putfield 121, 3) := dget zdX9_undo_0 10 rfl
theorem dX9_undo_20 : decode cX9_undo 20 = .ok (.aload_n 0, 1) := dget zdX9_undo_0 11 rfl
theorem dX9_undo_21 : decode cX9_undo 21 = .ok (.aload_n 0, 1) := dget zdX9_undo_0 12 rfl
theorem dX9_undo_22 : decode cX9_undo 22 = .ok (.getfield 40, 3) := dget zdX9_undo_0 13 rfl
theorem dX9_undo_25 : decode cX9_undo 25 = .ok (.bipush 97, 2) := dget zdX9_undo_0 14 rfl
theorem dX9_undo_27 : decode cX9_undo 27 = .ok (.aload_n 0, 1) := dget zdX9_undo_0 15 rfl
theorem dX9_undo_28 : decode cX9_undo 28 = .ok (.getfield 121, 3) := dget zdX9_undo_0 16 rfl
theorem dX9_undo_31 : decode cX9_undo 31 = .ok (.imul, 1) := dget zdX9_undo_0 17 rfl
theorem dX9_undo_32 : decode cX9_undo 32 = .ok (.invokevirtual 167, 3) := dget zdX9_undo_0 18 rfl
theorem dX9_undo_35 : decode cX9_undo 35 = .ok (.aload_n 0, 1) := dget zdX9_undo_0 19 rfl
theorem dX9_undo_36 : decode cX9_undo 36 = .ok (.getfield 121, 3) := dget zdX9_undo_0 20 rfl
theorem dX9_undo_39 : decode cX9_undo 39 = .ok (.ireturn, 1) := dget zdX9_undo_0 21 rfl
theorem zdX9_aim_0 : dchk cX9_aim [(0, .aload_n 0, 1), (1, .iload_n 1, 1), (2, .invokevirtual 131, 3), (5, .ifCond .ne 5, 3), (8, .iconst (-1), 1), (9, .ireturn, 1), (10, .bipush 100, 2), (12, .istore_n 2, 1), (13, .iload_n 2, 1), (14, .sipush 10000, 3), (17, .aload_n 0, 1), (18, .getfield 52, 3), (21, .imul, 1), (22, .if_icmp .ge 57, 3), (25, .iload_n 2, 1), (26, .sipush 10000, 3), (29, .idiv, 1), (30, .istore_n 3, 1), (31, .iload_n 2, 1), (32, .bipush 100, 2), (34, .idiv, 1), (35, .bipush 100, 2), (37, .irem, 1), (38, .istore 4, 2), (40, .iload_n 2, 1), (41, .bipush 100, 2), (43, .irem, 1), (44, .istore 5, 2), (46, .aload_n 0, 1), (47, .iload_n 3, 1), (48, .iload 4, 2), (50, .iload 5, 2), (52, .invokevirtual 134, 3), (55, .ifCond .eq 18, 3), (58, .aload_n 0, 1), (59, .iload_n 3, 1), (60, .iload 4, 2), (62, .iload 5, 2), (64, .invokevirtual 137, 3), (67, .iload_n 1, 1), (68, .if_icmp .ne 5, 3), (71, .iload_n 2, 1), (72, .ireturn, 1), (73, .iinc 2 1, 3), (76, .goto (-63), 3), (79, .bipush (-4), 2), (81, .ireturn, 1)] = true := by decide +kernel
theorem dX9_aim_0 : decode cX9_aim 0 = .ok (.aload_n 0, 1) := dget zdX9_aim_0 0 rfl
theorem dX9_aim_1 : decode cX9_aim 1 = .ok (.iload_n 1, 1) := dget zdX9_aim_0 1 rfl
theorem dX9_aim_2 : decode cX9_aim 2 = .ok (.invokevirtual 131, 3) := dget zdX9_aim_0 2 rfl
theorem dX9_aim_5 : decode cX9_aim 5 = .ok (.ifCond .ne 5, 3) := dget zdX9_aim_0 3 rfl
theorem dX9_aim_8 : decode cX9_aim 8 = .ok (.iconst (-1), 1) := dget zdX9_aim_0 4 rfl
theorem dX9_aim_9 : decode cX9_aim 9 = .ok (.ireturn, 1) := dget zdX9_aim_0 5 rfl
theorem dX9_aim_10 : decode cX9_aim 10 = .ok (.bipush 100, 2) := dget zdX9_aim_0 6 rfl
theorem dX9_aim_12 : decode cX9_aim 12 = .ok (.istore_n 2, 1) := dget zdX9_aim_0 7 rfl
theorem dX9_aim_13 : decode cX9_aim 13 = .ok (.iload_n 2, 1) := dget zdX9_aim_0 8 rfl
theorem dX9_aim_14 : decode cX9_aim 14 = .ok (.sipush 10000, 3) := dget zdX9_aim_0 9 rfl
theorem dX9_aim_17 : decode cX9_aim 17 = .ok (.aload_n 0, 1) := dget zdX9_aim_0 10 rfl
theorem dX9_aim_18 : decode cX9_aim 18 = .ok (.getfield 52, 3) := dget zdX9_aim_0 11 rfl
theorem dX9_aim_21 : decode cX9_aim 21 = .ok (.imul, 1) := dget zdX9_aim_0 12 rfl
theorem dX9_aim_22 : decode cX9_aim 22 = .ok (.if_icmp .ge 57, 3) := dget zdX9_aim_0 13 rfl
theorem dX9_aim_25 : decode cX9_aim 25 = .ok (.iload_n 2, 1) := dget zdX9_aim_0 14 rfl
theorem dX9_aim_26 : decode cX9_aim 26 = .ok (.sipush 10000, 3) := dget zdX9_aim_0 15 rfl
theorem dX9_aim_29 : decode cX9_aim 29 = .ok (.idiv, 1) := dget zdX9_aim_0 16 rfl
theorem dX9_aim_30 : decode cX9_aim 30 = .ok (.istore_n 3, 1) := dget zdX9_aim_0 17 rfl
theorem dX9_aim_31 : decode cX9_aim 31 = .ok (.iload_n 2, 1) := dget zdX9_aim_0 18 rfl
theorem dX9_aim_32 : decode cX9_aim 32 = .ok (.bipush 100, 2) := dget zdX9_aim_0 19 rfl
theorem dX9_aim_34 : decode cX9_aim 34 = .ok (.idiv, 1) := dget zdX9_aim_0 20 rfl
theorem dX9_aim_35 : decode cX9_aim 35 = .ok (.bipush 100, 2) := dget zdX9_aim_0 21 rfl
theorem dX9_aim_37 : decode cX9_aim 37 = .ok (.irem, 1) := dget zdX9_aim_0 22 rfl
theorem dX9_aim_38 : decode cX9_aim 38 = .ok (.istore 4, 2) := dget zdX9_aim_0 23 rfl
theorem dX9_aim_40 : decode cX9_aim 40 = .ok (.iload_n 2, 1) := dget zdX9_aim_0 24 rfl
theorem dX9_aim_41 : decode cX9_aim 41 = .ok (.bipush 100, 2) := dget zdX9_aim_0 25 rfl
theorem dX9_aim_43 : decode cX9_aim 43 = .ok (.irem, 1) := dget zdX9_aim_0 26 rfl
theorem dX9_aim_44 : decode cX9_aim 44 = .ok (.istore 5, 2) := dget zdX9_aim_0 27 rfl
theorem dX9_aim_46 : decode cX9_aim 46 = .ok (.aload_n 0, 1) := dget zdX9_aim_0 28 rfl
theorem dX9_aim_47 : decode cX9_aim 47 = .ok (.iload_n 3, 1) := dget zdX9_aim_0 29 rfl
theorem dX9_aim_48 : decode cX9_aim 48 = .ok (.iload 4, 2) := dget zdX9_aim_0 30 rfl
theorem dX9_aim_50 : decode cX9_aim 50 = .ok (.iload 5, 2) := dget zdX9_aim_0 31 rfl
theorem dX9_aim_52 : decode cX9_aim 52 = .ok (.invokevirtual 134, 3) := dget zdX9_aim_0 32 rfl
theorem dX9_aim_55 : decode cX9_aim 55 = .ok (.ifCond .eq 18, 3) := dget zdX9_aim_0 33 rfl
theorem dX9_aim_58 : decode cX9_aim 58 = .ok (.aload_n 0, 1) := dget zdX9_aim_0 34 rfl
theorem dX9_aim_59 : decode cX9_aim 59 = .ok (.iload_n 3, 1) := dget zdX9_aim_0 35 rfl
theorem dX9_aim_60 : decode cX9_aim 60 = .ok (.iload 4, 2) := dget zdX9_aim_0 36 rfl
theorem dX9_aim_62 : decode cX9_aim 62 = .ok (.iload 5, 2) := dget zdX9_aim_0 37 rfl
theorem dX9_aim_64 : decode cX9_aim 64 = .ok (.invokevirtual 137, 3) := dget zdX9_aim_0 38 rfl
theorem dX9_aim_67 : decode cX9_aim 67 = .ok (.iload_n 1, 1) := dget zdX9_aim_0 39 rfl
theorem dX9_aim_68 : decode cX9_aim 68 = .ok (.if_icmp .ne 5, 3) := dget zdX9_aim_0 40 rfl
theorem dX9_aim_71 : decode cX9_aim 71 = .ok (.iload_n 2, 1) := dget zdX9_aim_0 41 rfl
theorem dX9_aim_72 : decode cX9_aim 72 = .ok (.ireturn, 1) := dget zdX9_aim_0 42 rfl
theorem dX9_aim_73 : decode cX9_aim 73 = .ok (.iinc 2 1, 3) := dget zdX9_aim_0 43 rfl
theorem dX9_aim_76 : decode cX9_aim 76 = .ok (.goto (-63), 3) := dget zdX9_aim_0 44 rfl
theorem dX9_aim_79 : decode cX9_aim 79 = .ok (.bipush (-4), 2) := dget zdX9_aim_0 45 rfl
theorem dX9_aim_81 : decode cX9_aim 81 = .ok (.ireturn, 1) := dget zdX9_aim_0 46 rfl
theorem zdX9_ownedThen_0 : dchk cX9_ownedThen [(0, .aload_n 0, 1), (1, .iload_n 1, 1), (2, .invokevirtual 144, 3), (5, .istore_n 3, 1), (6, .iconst 0, 1), (7, .istore 4, 2), (9, .iload 4, 2), (11, .aload_n 0, 1), (12, .getfield 60, 3), (15, .if_icmp .ge 88, 3), (18, .aload_n 0, 1), (19, .getfield 34, 3), (22, .iload 4, 2), (24, .iaload, 1), (25, .bipush (-4), 2), (27, .if_icmp .eq 23, 3), (30, .aload_n 0, 1), (31, .getfield 13, 3), (34, .aload_n 0, 1), (35, .getfield 34, 3), (38, .iload 4, 2), (40, .iaload, 1), (41, .iaload, 1), (42, .iload_n 1, 1), (43, .if_icmp .ne 7, 3), (46, .iconst 1, 1), (47, .goto 4, 3), (50, .iconst 0, 1), (51, .istore 5, 2), (53, .iload_n 3, 1), (54, .aload_n 0, 1), (55, .getfield 34, 3), (58, .iload 4, 2), (60, .iaload, 1), (61, .bipush (-4), 2), (63, .if_icmp .eq 18, 3), (66, .iload 5, 2), (68, .iload_n 1, 1), (69, .iload_n 2, 1), (70, .if_icmp .ne 7, 3), (73, .iconst 1, 1), (74, .goto 4, 3), (77, .iconst 0, 1), (78, .if_icmp .ne 7, 3), (81, .iconst 0, 1), (82, .goto 13, 3), (85, .iload_n 1, 1), (86, .iload_n 2, 1), (87, .if_icmp .ne 7, 3), (90, .iconst 1, 1), (91, .goto 4, 3), (94, .iconst (-1), 1), (95, .iadd, 1), (96, .istore_n 3, 1), (97, .iinc 4 1, 3), (100, .goto (-91), 3), (103, .iload_n 3, 1), (104, .ireturn, 1)] = true := by decide +kernel
theorem dX9_ownedThen_0 : decode cX9_ownedThen 0 = .ok (.aload_n 0, 1) := dget zdX9_ownedThen_0 0 rfl
theorem dX9_ownedThen_1 : decode cX9_ownedThen 1 = .ok (.iload_n 1, 1) := dget zdX9_ownedThen_0 1 rfl
theorem dX9_ownedThen_2 : decode cX9_ownedThen 2 = .ok (.invokevirtual 144, 3) := dget zdX9_ownedThen_0 2 rfl
theorem dX9_ownedThen_5 : decode cX9_ownedThen 5 = .ok (.istore_n 3, 1) := dget zdX9_ownedThen_0 3 rfl
theorem dX9_ownedThen_6 : decode cX9_ownedThen 6 = .ok (.iconst 0, 1) := dget zdX9_ownedThen_0 4 rfl
theorem dX9_ownedThen_7 : decode cX9_ownedThen 7 = .ok (.istore 4, 2) := dget zdX9_ownedThen_0 5 rfl
theorem dX9_ownedThen_9 : decode cX9_ownedThen 9 = .ok (.iload 4, 2) := dget zdX9_ownedThen_0 6 rfl
theorem dX9_ownedThen_11 : decode cX9_ownedThen 11 = .ok (.aload_n 0, 1) := dget zdX9_ownedThen_0 7 rfl
theorem dX9_ownedThen_12 : decode cX9_ownedThen 12 = .ok (.getfield 60, 3) := dget zdX9_ownedThen_0 8 rfl
theorem dX9_ownedThen_15 : decode cX9_ownedThen 15 = .ok (.if_icmp .ge 88, 3) := dget zdX9_ownedThen_0 9 rfl
theorem dX9_ownedThen_18 : decode cX9_ownedThen 18 = .ok (.aload_n 0, 1) := dget zdX9_ownedThen_0 10 rfl
theorem dX9_ownedThen_19 : decode cX9_ownedThen 19 = .ok (.getfield 34, 3) := dget zdX9_ownedThen_0 11 rfl
theorem dX9_ownedThen_22 : decode cX9_ownedThen 22 = .ok (.iload 4, 2) := dget zdX9_ownedThen_0 12 rfl
theorem dX9_ownedThen_24 : decode cX9_ownedThen 24 = .ok (.iaload, 1) := dget zdX9_ownedThen_0 13 rfl
theorem dX9_ownedThen_25 : decode cX9_ownedThen 25 = .ok (.bipush (-4), 2) := dget zdX9_ownedThen_0 14 rfl
theorem dX9_ownedThen_27 : decode cX9_ownedThen 27 = .ok (.if_icmp .eq 23, 3) := dget zdX9_ownedThen_0 15 rfl
theorem dX9_ownedThen_30 : decode cX9_ownedThen 30 = .ok (.aload_n 0, 1) := dget zdX9_ownedThen_0 16 rfl
theorem dX9_ownedThen_31 : decode cX9_ownedThen 31 = .ok (.getfield 13, 3) := dget zdX9_ownedThen_0 17 rfl
theorem dX9_ownedThen_34 : decode cX9_ownedThen 34 = .ok (.aload_n 0, 1) := dget zdX9_ownedThen_0 18 rfl
theorem dX9_ownedThen_35 : decode cX9_ownedThen 35 = .ok (.getfield 34, 3) := dget zdX9_ownedThen_0 19 rfl
theorem dX9_ownedThen_38 : decode cX9_ownedThen 38 = .ok (.iload 4, 2) := dget zdX9_ownedThen_0 20 rfl
theorem dX9_ownedThen_40 : decode cX9_ownedThen 40 = .ok (.iaload, 1) := dget zdX9_ownedThen_0 21 rfl
theorem dX9_ownedThen_41 : decode cX9_ownedThen 41 = .ok (.iaload, 1) := dget zdX9_ownedThen_0 22 rfl
theorem dX9_ownedThen_42 : decode cX9_ownedThen 42 = .ok (.iload_n 1, 1) := dget zdX9_ownedThen_0 23 rfl
theorem dX9_ownedThen_43 : decode cX9_ownedThen 43 = .ok (.if_icmp .ne 7, 3) := dget zdX9_ownedThen_0 24 rfl
theorem dX9_ownedThen_46 : decode cX9_ownedThen 46 = .ok (.iconst 1, 1) := dget zdX9_ownedThen_0 25 rfl
theorem dX9_ownedThen_47 : decode cX9_ownedThen 47 = .ok (.goto 4, 3) := dget zdX9_ownedThen_0 26 rfl
theorem dX9_ownedThen_50 : decode cX9_ownedThen 50 = .ok (.iconst 0, 1) := dget zdX9_ownedThen_0 27 rfl
theorem dX9_ownedThen_51 : decode cX9_ownedThen 51 = .ok (.istore 5, 2) := dget zdX9_ownedThen_0 28 rfl
theorem dX9_ownedThen_53 : decode cX9_ownedThen 53 = .ok (.iload_n 3, 1) := dget zdX9_ownedThen_0 29 rfl
theorem dX9_ownedThen_54 : decode cX9_ownedThen 54 = .ok (.aload_n 0, 1) := dget zdX9_ownedThen_0 30 rfl
theorem dX9_ownedThen_55 : decode cX9_ownedThen 55 = .ok (.getfield 34, 3) := dget zdX9_ownedThen_0 31 rfl
theorem dX9_ownedThen_58 : decode cX9_ownedThen 58 = .ok (.iload 4, 2) := dget zdX9_ownedThen_0 32 rfl
theorem dX9_ownedThen_60 : decode cX9_ownedThen 60 = .ok (.iaload, 1) := dget zdX9_ownedThen_0 33 rfl
theorem dX9_ownedThen_61 : decode cX9_ownedThen 61 = .ok (.bipush (-4), 2) := dget zdX9_ownedThen_0 34 rfl
theorem dX9_ownedThen_63 : decode cX9_ownedThen 63 = .ok (.if_icmp .eq 18, 3) := dget zdX9_ownedThen_0 35 rfl
theorem dX9_ownedThen_66 : decode cX9_ownedThen 66 = .ok (.iload 5, 2) := dget zdX9_ownedThen_0 36 rfl
theorem dX9_ownedThen_68 : decode cX9_ownedThen 68 = .ok (.iload_n 1, 1) := dget zdX9_ownedThen_0 37 rfl
theorem dX9_ownedThen_69 : decode cX9_ownedThen 69 = .ok (.iload_n 2, 1) := dget zdX9_ownedThen_0 38 rfl
theorem dX9_ownedThen_70 : decode cX9_ownedThen 70 = .ok (.if_icmp .ne 7, 3) := dget zdX9_ownedThen_0 39 rfl
theorem dX9_ownedThen_73 : decode cX9_ownedThen 73 = .ok (.iconst 1, 1) := dget zdX9_ownedThen_0 40 rfl
theorem dX9_ownedThen_74 : decode cX9_ownedThen 74 = .ok (.goto 4, 3) := dget zdX9_ownedThen_0 41 rfl
theorem dX9_ownedThen_77 : decode cX9_ownedThen 77 = .ok (.iconst 0, 1) := dget zdX9_ownedThen_0 42 rfl
theorem dX9_ownedThen_78 : decode cX9_ownedThen 78 = .ok (.if_icmp .ne 7, 3) := dget zdX9_ownedThen_0 43 rfl
theorem dX9_ownedThen_81 : decode cX9_ownedThen 81 = .ok (.iconst 0, 1) := dget zdX9_ownedThen_0 44 rfl
theorem dX9_ownedThen_82 : decode cX9_ownedThen 82 = .ok (.goto 13, 3) := dget zdX9_ownedThen_0 45 rfl
theorem dX9_ownedThen_85 : decode cX9_ownedThen 85 = .ok (.iload_n 1, 1) := dget zdX9_ownedThen_0 46 rfl
theorem dX9_ownedThen_86 : decode cX9_ownedThen 86 = .ok (.iload_n 2, 1) := dget zdX9_ownedThen_0 47 rfl
theorem dX9_ownedThen_87 : decode cX9_ownedThen 87 = .ok (.if_icmp .ne 7, 3) := dget zdX9_ownedThen_0 48 rfl
theorem dX9_ownedThen_90 : decode cX9_ownedThen 90 = .ok (.iconst 1, 1) := dget zdX9_ownedThen_0 49 rfl
theorem dX9_ownedThen_91 : decode cX9_ownedThen 91 = .ok (.goto 4, 3) := dget zdX9_ownedThen_0 50 rfl
theorem dX9_ownedThen_94 : decode cX9_ownedThen 94 = .ok (.iconst (-1), 1) := dget zdX9_ownedThen_0 51 rfl
theorem dX9_ownedThen_95 : decode cX9_ownedThen 95 = .ok (.iadd, 1) := dget zdX9_ownedThen_0 52 rfl
theorem dX9_ownedThen_96 : decode cX9_ownedThen 96 = .ok (.istore_n 3, 1) := dget zdX9_ownedThen_0 53 rfl
theorem dX9_ownedThen_97 : decode cX9_ownedThen 97 = .ok (.iinc 4 1, 3) := dget zdX9_ownedThen_0 54 rfl
theorem dX9_ownedThen_100 : decode cX9_ownedThen 100 = .ok (.goto (-91), 3) := dget zdX9_ownedThen_0 55 rfl
theorem dX9_ownedThen_103 : decode cX9_ownedThen 103 = .ok (.iload_n 3, 1) := dget zdX9_ownedThen_0 56 rfl
theorem dX9_ownedThen_104 : decode cX9_ownedThen 104 = .ok (.ireturn, 1) := dget zdX9_ownedThen_0 57 rfl
theorem zdX9_setBest_0 : dchk cX9_setBest [(0, .aload_n 0, 1), (1, .bipush (-4), 2), (3, .putfield 170, 3), (6, .bipush 100, 2), (8, .istore_n 3, 1), (9, .iload_n 3, 1), (10, .sipush 10000, 3), (13, .aload_n 0, 1), (14, .getfield 52, 3), (17, .imul, 1), (18, .if_icmp .ge 140, 3), (21, .iload_n 3, 1), (22, .sipush 10000, 3), (25, .idiv, 1), (26, .istore 4, 2), (28, .iload_n 3, 1), (29, .bipush 100, 2), (31, .idiv, 1), (32, .bipush 100, 2), (34, .irem, 1), (35, .istore 5, 2), (37, .iload_n 3, 1), (38, .bipush 100, 2), (40, .irem, 1), (41, .istore 6, 2), (43, .aload_n 0, 1), (44, .iload 4, 2), (46, .iload 5, 2), (48, .iload 6, 2), (50, .invokevirtual 134, 3), (53, .ifCond .eq 99, 3), (56, .aload_n 0, 1), (57, .iload 4, 2), (59, .iload 5, 2), (61, .iload 6, 2), (63, .invokevirtual 137, 3), (66, .pop, 1), (67, .aload_n 0, 1), (68, .iload_n 2, 1), (69, .iload_n 1, 1), (70, .invokevirtual 173, 3), (73, .istore 7, 2), (75, .aload_n 0, 1), (76, .getfield 170, 3), (79, .bipush (-4), 2), (81, .if_icmp .eq 29, 3), (84, .iload_n 2, 1), (85, .iload_n 1, 1), (86, .if_icmp .ne 15, 3), (89, .iload 7, 2), (91, .aload_n 0, 1), (92, .getfield 176, 3), (95, .if_icmp .le 19, 3), (98, .goto 12, 3), (101, .iload 7, 2), (103, .aload_n 0, 1), (104, .getfield 176, 3), (107, .if_icmp .ge 7, 3), (110, .iconst 1, 1), (111, .goto 4, 3), (114, .iconst 0, 1), (115, .istore 8, 2), (117, .aload_n 0, 1), (118, .iload 8, 2), (120, .ifCond .eq 7, 3), (123, .iload_n 3, 1), (124, .goto 7, 3), (127, .aload_n 0, 1), (128, .getfield 170, 3), (131, .putfield 170, 3), (134, .aload_n 0, 1), (135, .iload 8, 2), (137, .ifCond .eq 8, 3), (140, .iload 7, 2), (142, .goto 7, 3), (145, .aload_n 0, 1), (146, .getfield 176, 3), (149, .putfield 176, 3), (152, .iinc 3 1, 3), (155, .goto (-146), 3), (158, .return_, 1)] = true := by decide +kernel
theorem dX9_setBest_0 : decode cX9_setBest 0 = .ok (.aload_n 0, 1) := dget zdX9_setBest_0 0 rfl
theorem dX9_setBest_1 : decode cX9_setBest 1 = .ok (.bipush (-4), 2) := dget zdX9_setBest_0 1 rfl
theorem dX9_setBest_3 : decode cX9_setBest 3 = .ok (.putfield 170, 3) := dget zdX9_setBest_0 2 rfl
theorem dX9_setBest_6 : decode cX9_setBest 6 = .ok (.bipush 100, 2) := dget zdX9_setBest_0 3 rfl
theorem dX9_setBest_8 : decode cX9_setBest 8 = .ok (.istore_n 3, 1) := dget zdX9_setBest_0 4 rfl
theorem dX9_setBest_9 : decode cX9_setBest 9 = .ok (.iload_n 3, 1) := dget zdX9_setBest_0 5 rfl
theorem dX9_setBest_10 : decode cX9_setBest 10 = .ok (.sipush 10000, 3) := dget zdX9_setBest_0 6 rfl
theorem dX9_setBest_13 : decode cX9_setBest 13 = .ok (.aload_n 0, 1) := dget zdX9_setBest_0 7 rfl
theorem dX9_setBest_14 : decode cX9_setBest 14 = .ok (.getfield 52, 3) := dget zdX9_setBest_0 8 rfl
theorem dX9_setBest_17 : decode cX9_setBest 17 = .ok (.imul, 1) := dget zdX9_setBest_0 9 rfl
theorem dX9_setBest_18 : decode cX9_setBest 18 = .ok (.if_icmp .ge 140, 3) := dget zdX9_setBest_0 10 rfl
theorem dX9_setBest_21 : decode cX9_setBest 21 = .ok (.iload_n 3, 1) := dget zdX9_setBest_0 11 rfl
theorem dX9_setBest_22 : decode cX9_setBest 22 = .ok (.sipush 10000, 3) := dget zdX9_setBest_0 12 rfl
theorem dX9_setBest_25 : decode cX9_setBest 25 = .ok (.idiv, 1) := dget zdX9_setBest_0 13 rfl
theorem dX9_setBest_26 : decode cX9_setBest 26 = .ok (.istore 4, 2) := dget zdX9_setBest_0 14 rfl
theorem dX9_setBest_28 : decode cX9_setBest 28 = .ok (.iload_n 3, 1) := dget zdX9_setBest_0 15 rfl
theorem dX9_setBest_29 : decode cX9_setBest 29 = .ok (.bipush 100, 2) := dget zdX9_setBest_0 16 rfl
theorem dX9_setBest_31 : decode cX9_setBest 31 = .ok (.idiv, 1) := dget zdX9_setBest_0 17 rfl
theorem dX9_setBest_32 : decode cX9_setBest 32 = .ok (.bipush 100, 2) := dget zdX9_setBest_0 18 rfl
theorem dX9_setBest_34 : decode cX9_setBest 34 = .ok (.irem, 1) := dget zdX9_setBest_0 19 rfl
theorem dX9_setBest_35 : decode cX9_setBest 35 = .ok (.istore 5, 2) := dget zdX9_setBest_0 20 rfl
theorem dX9_setBest_37 : decode cX9_setBest 37 = .ok (.iload_n 3, 1) := dget zdX9_setBest_0 21 rfl
theorem dX9_setBest_38 : decode cX9_setBest 38 = .ok (.bipush 100, 2) := dget zdX9_setBest_0 22 rfl
theorem dX9_setBest_40 : decode cX9_setBest 40 = .ok (.irem, 1) := dget zdX9_setBest_0 23 rfl
theorem dX9_setBest_41 : decode cX9_setBest 41 = .ok (.istore 6, 2) := dget zdX9_setBest_0 24 rfl
theorem dX9_setBest_43 : decode cX9_setBest 43 = .ok (.aload_n 0, 1) := dget zdX9_setBest_0 25 rfl
theorem dX9_setBest_44 : decode cX9_setBest 44 = .ok (.iload 4, 2) := dget zdX9_setBest_0 26 rfl
theorem dX9_setBest_46 : decode cX9_setBest 46 = .ok (.iload 5, 2) := dget zdX9_setBest_0 27 rfl
theorem dX9_setBest_48 : decode cX9_setBest 48 = .ok (.iload 6, 2) := dget zdX9_setBest_0 28 rfl
theorem dX9_setBest_50 : decode cX9_setBest 50 = .ok (.invokevirtual 134, 3) := dget zdX9_setBest_0 29 rfl
theorem dX9_setBest_53 : decode cX9_setBest 53 = .ok (.ifCond .eq 99, 3) := dget zdX9_setBest_0 30 rfl
theorem dX9_setBest_56 : decode cX9_setBest 56 = .ok (.aload_n 0, 1) := dget zdX9_setBest_0 31 rfl
theorem dX9_setBest_57 : decode cX9_setBest 57 = .ok (.iload 4, 2) := dget zdX9_setBest_0 32 rfl
theorem dX9_setBest_59 : decode cX9_setBest 59 = .ok (.iload 5, 2) := dget zdX9_setBest_0 33 rfl
theorem dX9_setBest_61 : decode cX9_setBest 61 = .ok (.iload 6, 2) := dget zdX9_setBest_0 34 rfl
theorem dX9_setBest_63 : decode cX9_setBest 63 = .ok (.invokevirtual 137, 3) := dget zdX9_setBest_0 35 rfl
theorem dX9_setBest_66 : decode cX9_setBest 66 = .ok (.pop, 1) := dget zdX9_setBest_0 36 rfl
theorem dX9_setBest_67 : decode cX9_setBest 67 = .ok (.aload_n 0, 1) := dget zdX9_setBest_0 37 rfl
theorem dX9_setBest_68 : decode cX9_setBest 68 = .ok (.iload_n 2, 1) := dget zdX9_setBest_0 38 rfl
theorem dX9_setBest_69 : decode cX9_setBest 69 = .ok (.iload_n 1, 1) := dget zdX9_setBest_0 39 rfl
theorem dX9_setBest_70 : decode cX9_setBest 70 = .ok (.invokevirtual 173, 3) := dget zdX9_setBest_0 40 rfl
theorem dX9_setBest_73 : decode cX9_setBest 73 = .ok (.istore 7, 2) := dget zdX9_setBest_0 41 rfl
theorem dX9_setBest_75 : decode cX9_setBest 75 = .ok (.aload_n 0, 1) := dget zdX9_setBest_0 42 rfl
theorem dX9_setBest_76 : decode cX9_setBest 76 = .ok (.getfield 170, 3) := dget zdX9_setBest_0 43 rfl
theorem dX9_setBest_79 : decode cX9_setBest 79 = .ok (.bipush (-4), 2) := dget zdX9_setBest_0 44 rfl
theorem dX9_setBest_81 : decode cX9_setBest 81 = .ok (.if_icmp .eq 29, 3) := dget zdX9_setBest_0 45 rfl
theorem dX9_setBest_84 : decode cX9_setBest 84 = .ok (.iload_n 2, 1) := dget zdX9_setBest_0 46 rfl
theorem dX9_setBest_85 : decode cX9_setBest 85 = .ok (.iload_n 1, 1) := dget zdX9_setBest_0 47 rfl
theorem dX9_setBest_86 : decode cX9_setBest 86 = .ok (.if_icmp .ne 15, 3) := dget zdX9_setBest_0 48 rfl
theorem dX9_setBest_89 : decode cX9_setBest 89 = .ok (.iload 7, 2) := dget zdX9_setBest_0 49 rfl
theorem dX9_setBest_91 : decode cX9_setBest 91 = .ok (.aload_n 0, 1) := dget zdX9_setBest_0 50 rfl
theorem dX9_setBest_92 : decode cX9_setBest 92 = .ok (.getfield 176, 3) := dget zdX9_setBest_0 51 rfl
theorem dX9_setBest_95 : decode cX9_setBest 95 = .ok (.if_icmp .le 19, 3) := dget zdX9_setBest_0 52 rfl
theorem dX9_setBest_98 : decode cX9_setBest 98 = .ok (.goto 12, 3) := dget zdX9_setBest_0 53 rfl
theorem dX9_setBest_101 : decode cX9_setBest 101 = .ok (.iload 7, 2) := dget zdX9_setBest_0 54 rfl
theorem dX9_setBest_103 : decode cX9_setBest 103 = .ok (.aload_n 0, 1) := dget zdX9_setBest_0 55 rfl
theorem dX9_setBest_104 : decode cX9_setBest 104 = .ok (.getfield 176, 3) := dget zdX9_setBest_0 56 rfl
theorem dX9_setBest_107 : decode cX9_setBest 107 = .ok (.if_icmp .ge 7, 3) := dget zdX9_setBest_0 57 rfl
theorem dX9_setBest_110 : decode cX9_setBest 110 = .ok (.iconst 1, 1) := dget zdX9_setBest_0 58 rfl
theorem dX9_setBest_111 : decode cX9_setBest 111 = .ok (.goto 4, 3) := dget zdX9_setBest_0 59 rfl
theorem dX9_setBest_114 : decode cX9_setBest 114 = .ok (.iconst 0, 1) := dget zdX9_setBest_0 60 rfl
theorem dX9_setBest_115 : decode cX9_setBest 115 = .ok (.istore 8, 2) := dget zdX9_setBest_0 61 rfl
theorem dX9_setBest_117 : decode cX9_setBest 117 = .ok (.aload_n 0, 1) := dget zdX9_setBest_0 62 rfl
theorem dX9_setBest_118 : decode cX9_setBest 118 = .ok (.iload 8, 2) := dget zdX9_setBest_0 63 rfl
theorem dX9_setBest_120 : decode cX9_setBest 120 = .ok (.ifCond .eq 7, 3) := dget zdX9_setBest_0 64 rfl
theorem dX9_setBest_123 : decode cX9_setBest 123 = .ok (.iload_n 3, 1) := dget zdX9_setBest_0 65 rfl
theorem dX9_setBest_124 : decode cX9_setBest 124 = .ok (.goto 7, 3) := dget zdX9_setBest_0 66 rfl
theorem dX9_setBest_127 : decode cX9_setBest 127 = .ok (.aload_n 0, 1) := dget zdX9_setBest_0 67 rfl
theorem dX9_setBest_128 : decode cX9_setBest 128 = .ok (.getfield 170, 3) := dget zdX9_setBest_0 68 rfl
theorem dX9_setBest_131 : decode cX9_setBest 131 = .ok (.putfield 170, 3) := dget zdX9_setBest_0 69 rfl
theorem dX9_setBest_134 : decode cX9_setBest 134 = .ok (.aload_n 0, 1) := dget zdX9_setBest_0 70 rfl
theorem dX9_setBest_135 : decode cX9_setBest 135 = .ok (.iload 8, 2) := dget zdX9_setBest_0 71 rfl
theorem dX9_setBest_137 : decode cX9_setBest 137 = .ok (.ifCond .eq 8, 3) := dget zdX9_setBest_0 72 rfl
theorem dX9_setBest_140 : decode cX9_setBest 140 = .ok (.iload 7, 2) := dget zdX9_setBest_0 73 rfl
theorem dX9_setBest_142 : decode cX9_setBest 142 = .ok (.goto 7, 3) := dget zdX9_setBest_0 74 rfl
theorem dX9_setBest_145 : decode cX9_setBest 145 = .ok (.aload_n 0, 1) := dget zdX9_setBest_0 75 rfl
theorem dX9_setBest_146 : decode cX9_setBest 146 = .ok (.getfield 176, 3) := dget zdX9_setBest_0 76 rfl
theorem dX9_setBest_149 : decode cX9_setBest 149 = .ok (.putfield 176, 3) := dget zdX9_setBest_0 77 rfl
theorem dX9_setBest_152 : decode cX9_setBest 152 = .ok (.iinc 3 1, 3) := dget zdX9_setBest_0 78 rfl
theorem dX9_setBest_155 : decode cX9_setBest 155 = .ok (.goto (-146), 3) := dget zdX9_setBest_0 79 rfl
theorem dX9_setBest_158 : decode cX9_setBest 158 = .ok (.return_, 1) := dget zdX9_setBest_0 80 rfl
theorem zdX9_gain_0 : dchk cX9_gain [(0, .iload_n 1, 1), (1, .invokestatic 141, 3), (4, .ifCond .eq 12, 3), (7, .iload_n 2, 1), (8, .iconst 0, 1), (9, .iconst 1, 1), (10, .invokestatic 67, 3), (13, .ifCond .ne 5, 3), (16, .iconst (-1), 1), (17, .ireturn, 1), (18, .aload_n 0, 1), (19, .iload_n 1, 1), (20, .iload_n 1, 1), (21, .invokevirtual 179, 3), (24, .iload_n 2, 1), (25, .ifCond .ne 10, 3), (28, .aload_n 0, 1), (29, .getfield 170, 3), (32, .goto 7, 3), (35, .aload_n 0, 1), (36, .getfield 176, 3), (39, .ireturn, 1)] = true := by decide +kernel
theorem dX9_gain_0 : decode cX9_gain 0 = .ok (.iload_n 1, 1) := dget zdX9_gain_0 0 rfl
theorem dX9_gain_1 : decode cX9_gain 1 = .ok (.invokestatic 141, 3) := dget zdX9_gain_0 1 rfl
theorem dX9_gain_4 : decode cX9_gain 4 = .ok (.ifCond .eq 12, 3) := dget zdX9_gain_0 2 rfl
theorem dX9_gain_7 : decode cX9_gain 7 = .ok (.iload_n 2, 1) := dget zdX9_gain_0 3 rfl
theorem dX9_gain_8 : decode cX9_gain 8 = .ok (.iconst 0, 1) := dget zdX9_gain_0 4 rfl
theorem dX9_gain_9 : decode cX9_gain 9 = .ok (.iconst 1, 1) := dget zdX9_gain_0 5 rfl
theorem dX9_gain_10 : decode cX9_gain 10 = .ok (.invokestatic 67, 3) := dget zdX9_gain_0 6 rfl
theorem dX9_gain_13 : decode cX9_gain 13 = .ok (.ifCond .ne 5, 3) := dget zdX9_gain_0 7 rfl
theorem dX9_gain_16 : decode cX9_gain 16 = .ok (.iconst (-1), 1) := dget zdX9_gain_0 8 rfl
theorem dX9_gain_17 : decode cX9_gain 17 = .ok (.ireturn, 1) := dget zdX9_gain_0 9 rfl
theorem dX9_gain_18 : decode cX9_gain 18 = .ok (.aload_n 0, 1) := dget zdX9_gain_0 10 rfl
theorem dX9_gain_19 : decode cX9_gain 19 = .ok (.iload_n 1, 1) := dget zdX9_gain_0 11 rfl
theorem dX9_gain_20 : decode cX9_gain 20 = .ok (.iload_n 1, 1) := dget zdX9_gain_0 12 rfl
theorem dX9_gain_21 : decode cX9_gain 21 = .ok (.invokevirtual 179, 3) := dget zdX9_gain_0 13 rfl
theorem dX9_gain_24 : decode cX9_gain 24 = .ok (.iload_n 2, 1) := dget zdX9_gain_0 14 rfl
theorem dX9_gain_25 : decode cX9_gain 25 = .ok (.ifCond .ne 10, 3) := dget zdX9_gain_0 15 rfl
theorem dX9_gain_28 : decode cX9_gain 28 = .ok (.aload_n 0, 1) := dget zdX9_gain_0 16 rfl
theorem dX9_gain_29 : decode cX9_gain 29 = .ok (.getfield 170, 3) := dget zdX9_gain_0 17 rfl
theorem dX9_gain_32 : decode cX9_gain 32 = .ok (.goto 7, 3) := dget zdX9_gain_0 18 rfl
theorem dX9_gain_35 : decode cX9_gain 35 = .ok (.aload_n 0, 1) := dget zdX9_gain_0 19 rfl
theorem dX9_gain_36 : decode cX9_gain 36 = .ok (.getfield 176, 3) := dget zdX9_gain_0 20 rfl
theorem dX9_gain_39 : decode cX9_gain 39 = .ok (.ireturn, 1) := dget zdX9_gain_0 21 rfl
theorem zdX9_spoil_0 : dchk cX9_spoil [(0, .iload_n 1, 1), (1, .invokestatic 141, 3), (4, .ifCond .eq 24, 3), (7, .iload_n 2, 1), (8, .invokestatic 141, 3), (11, .ifCond .eq 17, 3), (14, .iload_n 1, 1), (15, .iload_n 2, 1), (16, .if_icmp .eq 12, 3), (19, .iload_n 3, 1), (20, .iconst 0, 1), (21, .iconst 1, 1), (22, .invokestatic 67, 3), (25, .ifCond .ne 5, 3), (28, .iconst (-1), 1), (29, .ireturn, 1), (30, .aload_n 0, 1), (31, .iload_n 1, 1), (32, .iload_n 2, 1), (33, .invokevirtual 179, 3), (36, .iload_n 3, 1), (37, .ifCond .ne 10, 3), (40, .aload_n 0, 1), (41, .getfield 170, 3), (44, .goto 7, 3), (47, .aload_n 0, 1), (48, .getfield 176, 3), (51, .ireturn, 1)] = true := by decide +kernel
theorem dX9_spoil_0 : decode cX9_spoil 0 = .ok (.iload_n 1, 1) := dget zdX9_spoil_0 0 rfl
theorem dX9_spoil_1 : decode cX9_spoil 1 = .ok (.invokestatic 141, 3) := dget zdX9_spoil_0 1 rfl
theorem dX9_spoil_4 : decode cX9_spoil 4 = .ok (.ifCond .eq 24, 3) := dget zdX9_spoil_0 2 rfl
theorem dX9_spoil_7 : decode cX9_spoil 7 = .ok (.iload_n 2, 1) := dget zdX9_spoil_0 3 rfl
theorem dX9_spoil_8 : decode cX9_spoil 8 = .ok (.invokestatic 141, 3) := dget zdX9_spoil_0 4 rfl
theorem dX9_spoil_11 : decode cX9_spoil 11 = .ok (.ifCond .eq 17, 3) := dget zdX9_spoil_0 5 rfl
theorem dX9_spoil_14 : decode cX9_spoil 14 = .ok (.iload_n 1, 1) := dget zdX9_spoil_0 6 rfl
theorem dX9_spoil_15 : decode cX9_spoil 15 = .ok (.iload_n 2, 1) := dget zdX9_spoil_0 7 rfl
theorem dX9_spoil_16 : decode cX9_spoil 16 = .ok (.if_icmp .eq 12, 3) := dget zdX9_spoil_0 8 rfl
theorem dX9_spoil_19 : decode cX9_spoil 19 = .ok (.iload_n 3, 1) := dget zdX9_spoil_0 9 rfl
theorem dX9_spoil_20 : decode cX9_spoil 20 = .ok (.iconst 0, 1) := dget zdX9_spoil_0 10 rfl
theorem dX9_spoil_21 : decode cX9_spoil 21 = .ok (.iconst 1, 1) := dget zdX9_spoil_0 11 rfl
theorem dX9_spoil_22 : decode cX9_spoil 22 = .ok (.invokestatic 67, 3) := dget zdX9_spoil_0 12 rfl
theorem dX9_spoil_25 : decode cX9_spoil 25 = .ok (.ifCond .ne 5, 3) := dget zdX9_spoil_0 13 rfl
theorem dX9_spoil_28 : decode cX9_spoil 28 = .ok (.iconst (-1), 1) := dget zdX9_spoil_0 14 rfl
theorem dX9_spoil_29 : decode cX9_spoil 29 = .ok (.ireturn, 1) := dget zdX9_spoil_0 15 rfl
theorem dX9_spoil_30 : decode cX9_spoil 30 = .ok (.aload_n 0, 1) := dget zdX9_spoil_0 16 rfl
theorem dX9_spoil_31 : decode cX9_spoil 31 = .ok (.iload_n 1, 1) := dget zdX9_spoil_0 17 rfl
theorem dX9_spoil_32 : decode cX9_spoil 32 = .ok (.iload_n 2, 1) := dget zdX9_spoil_0 18 rfl
theorem dX9_spoil_33 : decode cX9_spoil 33 = .ok (.invokevirtual 179, 3) := dget zdX9_spoil_0 19 rfl
theorem dX9_spoil_36 : decode cX9_spoil 36 = .ok (.iload_n 3, 1) := dget zdX9_spoil_0 20 rfl
theorem dX9_spoil_37 : decode cX9_spoil 37 = .ok (.ifCond .ne 10, 3) := dget zdX9_spoil_0 21 rfl
theorem dX9_spoil_40 : decode cX9_spoil 40 = .ok (.aload_n 0, 1) := dget zdX9_spoil_0 22 rfl
theorem dX9_spoil_41 : decode cX9_spoil 41 = .ok (.getfield 170, 3) := dget zdX9_spoil_0 23 rfl
theorem dX9_spoil_44 : decode cX9_spoil 44 = .ok (.goto 7, 3) := dget zdX9_spoil_0 24 rfl
theorem dX9_spoil_47 : decode cX9_spoil 47 = .ok (.aload_n 0, 1) := dget zdX9_spoil_0 25 rfl
theorem dX9_spoil_48 : decode cX9_spoil 48 = .ok (.getfield 176, 3) := dget zdX9_spoil_0 26 rfl
theorem dX9_spoil_51 : decode cX9_spoil 51 = .ok (.ireturn, 1) := dget zdX9_spoil_0 27 rfl
theorem zdX9_cure_0 : dchk cX9_cure [(0, .aload_n 0, 1), (1, .iload_n 1, 1), (2, .iload_n 2, 1), (3, .iload_n 3, 1), (4, .invokevirtual 134, 3), (7, .ifCond .eq 12, 3), (10, .aload_n 0, 1), (11, .iload 4, 2), (13, .invokevirtual 131, 3), (16, .ifCond .ne 5, 3), (19, .iconst (-1), 1), (20, .ireturn, 1), (21, .aload_n 0, 1), (22, .iload_n 1, 1), (23, .iload_n 2, 1), (24, .iload_n 3, 1), (25, .invokevirtual 137, 3), (28, .iload 4, 2), (30, .if_icmp .ne 6, 3), (33, .bipush (-4), 2), (35, .ireturn, 1), (36, .iconst 0, 1), (37, .istore 5, 2), (39, .iload 5, 2), (41, .aload_n 0, 1), (42, .invokevirtual 63, 3), (45, .if_icmp .ge 91, 3), (48, .aload_n 0, 1), (49, .getfield 7, 3), (52, .iload 5, 2), (54, .iaload, 1), (55, .istore 6, 2), (57, .iconst 0, 1), (58, .istore 7, 2), (60, .iload 7, 2), (62, .iconst 3, 1), (63, .if_icmp .gt 67, 3), (66, .aload_n 0, 1), (67, .getfield 7, 3), (70, .iload 5, 2), (72, .iload 7, 2), (74, .iastore, 1), (75, .iload 7, 2), (77, .iload 6, 2), (79, .if_icmp .eq 19, 3), (82, .aload_n 0, 1), (83, .iload_n 1, 1), (84, .iload_n 2, 1), (85, .iload_n 3, 1), (86, .invokevirtual 137, 3), (89, .iload 4, 2), (91, .if_icmp .ne 7, 3), (94, .iconst 1, 1), (95, .goto 4, 3), (98, .iconst 0, 1), (99, .istore 8, 2), (101, .aload_n 0, 1), (102, .getfield 7, 3), (105, .iload 5, 2), (107, .iload 6, 2), (109, .iastore, 1), (110, .iload 8, 2), (112, .ifCond .eq 12, 3), (115, .bipush 10, 2), (117, .iload 5, 2), (119, .imul, 1), (120, .iload 7, 2), (122, .iadd, 1), (123, .ireturn, 1), (124, .iinc 7 1, 3), (127, .goto (-67), 3), (130, .iinc 5 1, 3), (133, .goto (-94), 3), (136, .bipush (-4), 2), (138, .ireturn, 1)] = true := by decide +kernel
theorem dX9_cure_0 : decode cX9_cure 0 = .ok (.aload_n 0, 1) := dget zdX9_cure_0 0 rfl
theorem dX9_cure_1 : decode cX9_cure 1 = .ok (.iload_n 1, 1) := dget zdX9_cure_0 1 rfl
theorem dX9_cure_2 : decode cX9_cure 2 = .ok (.iload_n 2, 1) := dget zdX9_cure_0 2 rfl
theorem dX9_cure_3 : decode cX9_cure 3 = .ok (.iload_n 3, 1) := dget zdX9_cure_0 3 rfl
theorem dX9_cure_4 : decode cX9_cure 4 = .ok (.invokevirtual 134, 3) := dget zdX9_cure_0 4 rfl
theorem dX9_cure_7 : decode cX9_cure 7 = .ok (.ifCond .eq 12, 3) := dget zdX9_cure_0 5 rfl
theorem dX9_cure_10 : decode cX9_cure 10 = .ok (.aload_n 0, 1) := dget zdX9_cure_0 6 rfl
theorem dX9_cure_11 : decode cX9_cure 11 = .ok (.iload 4, 2) := dget zdX9_cure_0 7 rfl
theorem dX9_cure_13 : decode cX9_cure 13 = .ok (.invokevirtual 131, 3) := dget zdX9_cure_0 8 rfl
theorem dX9_cure_16 : decode cX9_cure 16 = .ok (.ifCond .ne 5, 3) := dget zdX9_cure_0 9 rfl
theorem dX9_cure_19 : decode cX9_cure 19 = .ok (.iconst (-1), 1) := dget zdX9_cure_0 10 rfl
theorem dX9_cure_20 : decode cX9_cure 20 = .ok (.ireturn, 1) := dget zdX9_cure_0 11 rfl
theorem dX9_cure_21 : decode cX9_cure 21 = .ok (.aload_n 0, 1) := dget zdX9_cure_0 12 rfl
theorem dX9_cure_22 : decode cX9_cure 22 = .ok (.iload_n 1, 1) := dget zdX9_cure_0 13 rfl
theorem dX9_cure_23 : decode cX9_cure 23 = .ok (.iload_n 2, 1) := dget zdX9_cure_0 14 rfl
theorem dX9_cure_24 : decode cX9_cure 24 = .ok (.iload_n 3, 1) := dget zdX9_cure_0 15 rfl
theorem dX9_cure_25 : decode cX9_cure 25 = .ok (.invokevirtual 137, 3) := dget zdX9_cure_0 16 rfl
theorem dX9_cure_28 : decode cX9_cure 28 = .ok (.iload 4, 2) := dget zdX9_cure_0 17 rfl
theorem dX9_cure_30 : decode cX9_cure 30 = .ok (.if_icmp .ne 6, 3) := dget zdX9_cure_0 18 rfl
theorem dX9_cure_33 : decode cX9_cure 33 = .ok (.bipush (-4), 2) := dget zdX9_cure_0 19 rfl
theorem dX9_cure_35 : decode cX9_cure 35 = .ok (.ireturn, 1) := dget zdX9_cure_0 20 rfl
theorem dX9_cure_36 : decode cX9_cure 36 = .ok (.iconst 0, 1) := dget zdX9_cure_0 21 rfl
theorem dX9_cure_37 : decode cX9_cure 37 = .ok (.istore 5, 2) := dget zdX9_cure_0 22 rfl
theorem dX9_cure_39 : decode cX9_cure 39 = .ok (.iload 5, 2) := dget zdX9_cure_0 23 rfl
theorem dX9_cure_41 : decode cX9_cure 41 = .ok (.aload_n 0, 1) := dget zdX9_cure_0 24 rfl
theorem dX9_cure_42 : decode cX9_cure 42 = .ok (.invokevirtual 63, 3) := dget zdX9_cure_0 25 rfl
theorem dX9_cure_45 : decode cX9_cure 45 = .ok (.if_icmp .ge 91, 3) := dget zdX9_cure_0 26 rfl
theorem dX9_cure_48 : decode cX9_cure 48 = .ok (.aload_n 0, 1) := dget zdX9_cure_0 27 rfl
theorem dX9_cure_49 : decode cX9_cure 49 = .ok (.getfield 7, 3) := dget zdX9_cure_0 28 rfl
theorem dX9_cure_52 : decode cX9_cure 52 = .ok (.iload 5, 2) := dget zdX9_cure_0 29 rfl
theorem dX9_cure_54 : decode cX9_cure 54 = .ok (.iaload, 1) := dget zdX9_cure_0 30 rfl
theorem dX9_cure_55 : decode cX9_cure 55 = .ok (.istore 6, 2) := dget zdX9_cure_0 31 rfl
theorem dX9_cure_57 : decode cX9_cure 57 = .ok (.iconst 0, 1) := dget zdX9_cure_0 32 rfl
theorem dX9_cure_58 : decode cX9_cure 58 = .ok (.istore 7, 2) := dget zdX9_cure_0 33 rfl
theorem dX9_cure_60 : decode cX9_cure 60 = .ok (.iload 7, 2) := dget zdX9_cure_0 34 rfl
theorem dX9_cure_62 : decode cX9_cure 62 = .ok (.iconst 3, 1) := dget zdX9_cure_0 35 rfl
theorem dX9_cure_63 : decode cX9_cure 63 = .ok (.if_icmp .gt 67, 3) := dget zdX9_cure_0 36 rfl
theorem dX9_cure_66 : decode cX9_cure 66 = .ok (.aload_n 0, 1) := dget zdX9_cure_0 37 rfl
theorem dX9_cure_67 : decode cX9_cure 67 = .ok (.getfield 7, 3) := dget zdX9_cure_0 38 rfl
theorem dX9_cure_70 : decode cX9_cure 70 = .ok (.iload 5, 2) := dget zdX9_cure_0 39 rfl
theorem dX9_cure_72 : decode cX9_cure 72 = .ok (.iload 7, 2) := dget zdX9_cure_0 40 rfl
theorem dX9_cure_74 : decode cX9_cure 74 = .ok (.iastore, 1) := dget zdX9_cure_0 41 rfl
theorem dX9_cure_75 : decode cX9_cure 75 = .ok (.iload 7, 2) := dget zdX9_cure_0 42 rfl
theorem dX9_cure_77 : decode cX9_cure 77 = .ok (.iload 6, 2) := dget zdX9_cure_0 43 rfl
theorem dX9_cure_79 : decode cX9_cure 79 = .ok (.if_icmp .eq 19, 3) := dget zdX9_cure_0 44 rfl
theorem dX9_cure_82 : decode cX9_cure 82 = .ok (.aload_n 0, 1) := dget zdX9_cure_0 45 rfl
theorem dX9_cure_83 : decode cX9_cure 83 = .ok (.iload_n 1, 1) := dget zdX9_cure_0 46 rfl
theorem dX9_cure_84 : decode cX9_cure 84 = .ok (.iload_n 2, 1) := dget zdX9_cure_0 47 rfl
theorem dX9_cure_85 : decode cX9_cure 85 = .ok (.iload_n 3, 1) := dget zdX9_cure_0 48 rfl
theorem dX9_cure_86 : decode cX9_cure 86 = .ok (.invokevirtual 137, 3) := dget zdX9_cure_0 49 rfl
theorem dX9_cure_89 : decode cX9_cure 89 = .ok (.iload 4, 2) := dget zdX9_cure_0 50 rfl
theorem dX9_cure_91 : decode cX9_cure 91 = .ok (.if_icmp .ne 7, 3) := dget zdX9_cure_0 51 rfl
theorem dX9_cure_94 : decode cX9_cure 94 = .ok (.iconst 1, 1) := dget zdX9_cure_0 52 rfl
theorem dX9_cure_95 : decode cX9_cure 95 = .ok (.goto 4, 3) := dget zdX9_cure_0 53 rfl
theorem dX9_cure_98 : decode cX9_cure 98 = .ok (.iconst 0, 1) := dget zdX9_cure_0 54 rfl
theorem dX9_cure_99 : decode cX9_cure 99 = .ok (.istore 8, 2) := dget zdX9_cure_0 55 rfl
theorem dX9_cure_101 : decode cX9_cure 101 = .ok (.aload_n 0, 1) := dget zdX9_cure_0 56 rfl
theorem dX9_cure_102 : decode cX9_cure 102 = .ok (.getfield 7, 3) := dget zdX9_cure_0 57 rfl
theorem dX9_cure_105 : decode cX9_cure 105 = .ok (.iload 5, 2) := dget zdX9_cure_0 58 rfl
theorem dX9_cure_107 : decode cX9_cure 107 = .ok (.iload 6, 2) := dget zdX9_cure_0 59 rfl
theorem dX9_cure_109 : decode cX9_cure 109 = .ok (.iastore, 1) := dget zdX9_cure_0 60 rfl
theorem dX9_cure_110 : decode cX9_cure 110 = .ok (.iload 8, 2) := dget zdX9_cure_0 61 rfl
theorem dX9_cure_112 : decode cX9_cure 112 = .ok (.ifCond .eq 12, 3) := dget zdX9_cure_0 62 rfl
theorem dX9_cure_115 : decode cX9_cure 115 = .ok (.bipush 10, 2) := dget zdX9_cure_0 63 rfl
theorem dX9_cure_117 : decode cX9_cure 117 = .ok (.iload 5, 2) := dget zdX9_cure_0 64 rfl
theorem dX9_cure_119 : decode cX9_cure 119 = .ok (.imul, 1) := dget zdX9_cure_0 65 rfl
theorem dX9_cure_120 : decode cX9_cure 120 = .ok (.iload 7, 2) := dget zdX9_cure_0 66 rfl
theorem dX9_cure_122 : decode cX9_cure 122 = .ok (.iadd, 1) := dget zdX9_cure_0 67 rfl
theorem dX9_cure_123 : decode cX9_cure 123 = .ok (.ireturn, 1) := dget zdX9_cure_0 68 rfl
theorem dX9_cure_124 : decode cX9_cure 124 = .ok (.iinc 7 1, 3) := dget zdX9_cure_0 69 rfl
theorem dX9_cure_127 : decode cX9_cure 127 = .ok (.goto (-67), 3) := dget zdX9_cure_0 70 rfl
theorem dX9_cure_130 : decode cX9_cure 130 = .ok (.iinc 5 1, 3) := dget zdX9_cure_0 71 rfl
theorem dX9_cure_133 : decode cX9_cure 133 = .ok (.goto (-94), 3) := dget zdX9_cure_0 72 rfl
theorem dX9_cure_136 : decode cX9_cure 136 = .ok (.bipush (-4), 2) := dget zdX9_cure_0 73 rfl
theorem dX9_cure_138 : decode cX9_cure 138 = .ok (.ireturn, 1) := dget zdX9_cure_0 74 rfl
theorem zdX9_isBeside_0 : dchk cX9_isBeside [(0, .iload_n 2, 1), (1, .iload_n 1, 1), (2, .isub, 1), (3, .istore_n 3, 1), (4, .iload_n 3, 1), (5, .aload_n 0, 1), (6, .getfield 52, 3), (9, .if_icmp .eq 37, 3), (12, .iload_n 3, 1), (13, .aload_n 0, 1), (14, .getfield 52, 3), (17, .ineg, 1), (18, .if_icmp .eq 28, 3), (21, .iload_n 1, 1), (22, .aload_n 0, 1), (23, .getfield 52, 3), (26, .idiv, 1), (27, .iload_n 2, 1), (28, .aload_n 0, 1), (29, .getfield 52, 3), (32, .idiv, 1), (33, .if_icmp .ne 17, 3), (36, .iload_n 3, 1), (37, .iconst 1, 1), (38, .if_icmp .eq 8, 3), (41, .iload_n 3, 1), (42, .iconst (-1), 1), (43, .if_icmp .ne 7, 3), (46, .iconst 1, 1), (47, .goto 4, 3), (50, .iconst 0, 1), (51, .ireturn, 1)] = true := by decide +kernel
theorem dX9_isBeside_0 : decode cX9_isBeside 0 = .ok (.iload_n 2, 1) := dget zdX9_isBeside_0 0 rfl
theorem dX9_isBeside_1 : decode cX9_isBeside 1 = .ok (.iload_n 1, 1) := dget zdX9_isBeside_0 1 rfl
theorem dX9_isBeside_2 : decode cX9_isBeside 2 = .ok (.isub, 1) := dget zdX9_isBeside_0 2 rfl
theorem dX9_isBeside_3 : decode cX9_isBeside 3 = .ok (.istore_n 3, 1) := dget zdX9_isBeside_0 3 rfl
theorem dX9_isBeside_4 : decode cX9_isBeside 4 = .ok (.iload_n 3, 1) := dget zdX9_isBeside_0 4 rfl
theorem dX9_isBeside_5 : decode cX9_isBeside 5 = .ok (.aload_n 0, 1) := dget zdX9_isBeside_0 5 rfl
theorem dX9_isBeside_6 : decode cX9_isBeside 6 = .ok (.getfield 52, 3) := dget zdX9_isBeside_0 6 rfl
theorem dX9_isBeside_9 : decode cX9_isBeside 9 = .ok (.if_icmp .eq 37, 3) := dget zdX9_isBeside_0 7 rfl
theorem dX9_isBeside_12 : decode cX9_isBeside 12 = .ok (.iload_n 3, 1) := dget zdX9_isBeside_0 8 rfl
theorem dX9_isBeside_13 : decode cX9_isBeside 13 = .ok (.aload_n 0, 1) := dget zdX9_isBeside_0 9 rfl
theorem dX9_isBeside_14 : decode cX9_isBeside 14 = .ok (.getfield 52, 3) := dget zdX9_isBeside_0 10 rfl
theorem dX9_isBeside_17 : decode cX9_isBeside 17 = .ok (.ineg, 1) := dget zdX9_isBeside_0 11 rfl
theorem dX9_isBeside_18 : decode cX9_isBeside 18 = .ok (.if_icmp .eq 28, 3) := dget zdX9_isBeside_0 12 rfl
theorem dX9_isBeside_21 : decode cX9_isBeside 21 = .ok (.iload_n 1, 1) := dget zdX9_isBeside_0 13 rfl
theorem dX9_isBeside_22 : decode cX9_isBeside 22 = .ok (.aload_n 0, 1) := dget zdX9_isBeside_0 14 rfl
theorem dX9_isBeside_23 : decode cX9_isBeside 23 = .ok (.getfield 52, 3) := dget zdX9_isBeside_0 15 rfl
theorem dX9_isBeside_26 : decode cX9_isBeside 26 = .ok (.idiv, 1) := dget zdX9_isBeside_0 16 rfl
theorem dX9_isBeside_27 : decode cX9_isBeside 27 = .ok (.iload_n 2, 1) := dget zdX9_isBeside_0 17 rfl
theorem dX9_isBeside_28 : decode cX9_isBeside 28 = .ok (.aload_n 0, 1) := dget zdX9_isBeside_0 18 rfl
theorem dX9_isBeside_29 : decode cX9_isBeside 29 = .ok (.getfield 52, 3) := dget zdX9_isBeside_0 19 rfl
theorem dX9_isBeside_32 : decode cX9_isBeside 32 = .ok (.idiv, 1) := dget zdX9_isBeside_0 20 rfl
theorem dX9_isBeside_33 : decode cX9_isBeside 33 = .ok (.if_icmp .ne 17, 3) := dget zdX9_isBeside_0 21 rfl
theorem dX9_isBeside_36 : decode cX9_isBeside 36 = .ok (.iload_n 3, 1) := dget zdX9_isBeside_0 22 rfl
theorem dX9_isBeside_37 : decode cX9_isBeside 37 = .ok (.iconst 1, 1) := dget zdX9_isBeside_0 23 rfl
theorem dX9_isBeside_38 : decode cX9_isBeside 38 = .ok (.if_icmp .eq 8, 3) := dget zdX9_isBeside_0 24 rfl
theorem dX9_isBeside_41 : decode cX9_isBeside 41 = .ok (.iload_n 3, 1) := dget zdX9_isBeside_0 25 rfl
theorem dX9_isBeside_42 : decode cX9_isBeside 42 = .ok (.iconst (-1), 1) := dget zdX9_isBeside_0 26 rfl
theorem dX9_isBeside_43 : decode cX9_isBeside 43 = .ok (.if_icmp .ne 7, 3) := dget zdX9_isBeside_0 27 rfl
theorem dX9_isBeside_46 : decode cX9_isBeside 46 = .ok (.iconst 1, 1) := dget zdX9_isBeside_0 28 rfl
theorem dX9_isBeside_47 : decode cX9_isBeside 47 = .ok (.goto 4, 3) := dget zdX9_isBeside_0 29 rfl
theorem dX9_isBeside_50 : decode cX9_isBeside 50 = .ok (.iconst 0, 1) := dget zdX9_isBeside_0 30 rfl
theorem dX9_isBeside_51 : decode cX9_isBeside 51 = .ok (.ireturn, 1) := dget zdX9_isBeside_0 31 rfl
theorem zdX9_pieces_0 : dchk cX9_pieces [(0, .iload_n 1, 1), (1, .invokestatic 141, 3), (4, .ifCond .ne 5, 3), (7, .iconst (-1), 1), (8, .ireturn, 1), (9, .iconst 0, 1), (10, .istore_n 2, 1), (11, .iload_n 2, 1), (12, .aload_n 0, 1), (13, .invokevirtual 63, 3), (16, .if_icmp .ge 16, 3), (19, .aload_n 0, 1), (20, .getfield 43, 3), (23, .iload_n 2, 1), (24, .iload_n 2, 1), (25, .iastore, 1), (26, .iinc 2 1, 3), (29, .goto (-18), 3), (32, .iconst 1, 1), (33, .istore_n 2, 1), (34, .iload_n 2, 1), (35, .ifCond .eq 104, 3), (38, .iconst 0, 1), (39, .istore_n 2, 1), (40, .iconst 0, 1), (41, .istore_n 3, 1), (42, .iload_n 3, 1), (43, .aload_n 0, 1), (44, .invokevirtual 63, 3), (47, .if_icmp .ge 89, 3), (50, .iconst 0, 1), (51, .istore 4, 2), (53, .iload 4, 2), (55, .aload_n 0, 1), (56, .invokevirtual 63, 3), (59, .if_icmp .ge 71, 3), (62, .aload_n 0, 1), (63, .iload_n 3, 1), (64, .iload 4, 2), (66, .invokevirtual 183, 3), (69, .ifCond .eq 55, 3), (72, .aload_n 0, 1), (73, .getfield 13, 3), (76, .iload_n 3, 1), (77, .iaload, 1), (78, .iload_n 1, 1), (79, .if_icmp .ne 45, 3), (82, .aload_n 0, 1), (83, .getfield 13, 3), (86, .iload 4, 2), (88, .iaload, 1), (89, .iload_n 1, 1), (90, .if_icmp .ne 34, 3), (93, .aload_n 0, 1), (94, .getfield 43, 3), (97, .iload 4, 2), (99, .iaload, 1), (100, .aload_n 0, 1), (101, .getfield 43, 3), (104, .iload_n 3, 1), (105, .iaload, 1), (106, .if_icmp .ge 18, 3), (109, .aload_n 0, 1), (110, .getfield 43, 3), (113, .iload_n 3, 1), (114, .aload_n 0, 1), (115, .getfield 43, 3), (118, .iload 4, 2), (120, .iaload, 1), (121, .iastore, 1), (122, .iconst 1, 1), (123, .istore_n 2, 1), (124, .iinc 4 1, 3), (127, .goto (-74), 3), (130, .iinc 3 1, 3), (133, .goto (-91), 3), (136, .goto (-102), 3), (139, .iconst 0, 1), (140, .istore_n 3, 1), (141, .iconst 0, 1), (142, .istore 4, 2), (144, .iload 4, 2), (146, .aload_n 0, 1), (147, .invokevirtual 63, 3), (150, .if_icmp .ge 40, 3), (153, .iload_n 3, 1), (154, .aload_n 0, 1), (155, .getfield 13, 3), (158, .iload 4, 2), (160, .iaload, 1), (161, .iload_n 1, 1), (162, .if_icmp .ne 19, 3), (165, .aload_n 0, 1), (166, .getfield 43, 3), (169, .iload 4, 2), (171, .iaload, 1), (172, .iload 4, 2), (174, .if_icmp .ne 7, 3), (177, .iconst 1, 1), (178, .goto 4, 3), (181, .iconst 0, 1), (182, .iadd, 1), (183, .istore_n 3, 1), (184, .iinc 4 1, 3), (187, .goto (-43), 3), (190, .iload_n 3, 1), (191, .ireturn, 1)] = true := by decide +kernel
theorem dX9_pieces_0 : decode cX9_pieces 0 = .ok (.iload_n 1, 1) := dget zdX9_pieces_0 0 rfl
theorem dX9_pieces_1 : decode cX9_pieces 1 = .ok (.invokestatic 141, 3) := dget zdX9_pieces_0 1 rfl
theorem dX9_pieces_4 : decode cX9_pieces 4 = .ok (.ifCond .ne 5, 3) := dget zdX9_pieces_0 2 rfl
theorem dX9_pieces_7 : decode cX9_pieces 7 = .ok (.iconst (-1), 1) := dget zdX9_pieces_0 3 rfl
theorem dX9_pieces_8 : decode cX9_pieces 8 = .ok (.ireturn, 1) := dget zdX9_pieces_0 4 rfl
theorem dX9_pieces_9 : decode cX9_pieces 9 = .ok (.iconst 0, 1) := dget zdX9_pieces_0 5 rfl
theorem dX9_pieces_10 : decode cX9_pieces 10 = .ok (.istore_n 2, 1) := dget zdX9_pieces_0 6 rfl
theorem dX9_pieces_11 : decode cX9_pieces 11 = .ok (.iload_n 2, 1) := dget zdX9_pieces_0 7 rfl
theorem dX9_pieces_12 : decode cX9_pieces 12 = .ok (.aload_n 0, 1) := dget zdX9_pieces_0 8 rfl
theorem dX9_pieces_13 : decode cX9_pieces 13 = .ok (.invokevirtual 63, 3) := dget zdX9_pieces_0 9 rfl
theorem dX9_pieces_16 : decode cX9_pieces 16 = .ok (.if_icmp .ge 16, 3) := dget zdX9_pieces_0 10 rfl
theorem dX9_pieces_19 : decode cX9_pieces 19 = .ok (.aload_n 0, 1) := dget zdX9_pieces_0 11 rfl
theorem dX9_pieces_20 : decode cX9_pieces 20 = .ok (.getfield 43, 3) := dget zdX9_pieces_0 12 rfl
theorem dX9_pieces_23 : decode cX9_pieces 23 = .ok (.iload_n 2, 1) := dget zdX9_pieces_0 13 rfl
theorem dX9_pieces_24 : decode cX9_pieces 24 = .ok (.iload_n 2, 1) := dget zdX9_pieces_0 14 rfl
theorem dX9_pieces_25 : decode cX9_pieces 25 = .ok (.iastore, 1) := dget zdX9_pieces_0 15 rfl
theorem dX9_pieces_26 : decode cX9_pieces 26 = .ok (.iinc 2 1, 3) := dget zdX9_pieces_0 16 rfl
theorem dX9_pieces_29 : decode cX9_pieces 29 = .ok (.goto (-18), 3) := dget zdX9_pieces_0 17 rfl
theorem dX9_pieces_32 : decode cX9_pieces 32 = .ok (.iconst 1, 1) := dget zdX9_pieces_0 18 rfl
theorem dX9_pieces_33 : decode cX9_pieces 33 = .ok (.istore_n 2, 1) := dget zdX9_pieces_0 19 rfl
theorem dX9_pieces_34 : decode cX9_pieces 34 = .ok (.iload_n 2, 1) := dget zdX9_pieces_0 20 rfl
theorem dX9_pieces_35 : decode cX9_pieces 35 = .ok (.ifCond .eq 104, 3) := dget zdX9_pieces_0 21 rfl
theorem dX9_pieces_38 : decode cX9_pieces 38 = .ok (.iconst 0, 1) := dget zdX9_pieces_0 22 rfl
theorem dX9_pieces_39 : decode cX9_pieces 39 = .ok (.istore_n 2, 1) := dget zdX9_pieces_0 23 rfl
theorem dX9_pieces_40 : decode cX9_pieces 40 = .ok (.iconst 0, 1) := dget zdX9_pieces_0 24 rfl
theorem dX9_pieces_41 : decode cX9_pieces 41 = .ok (.istore_n 3, 1) := dget zdX9_pieces_0 25 rfl
theorem dX9_pieces_42 : decode cX9_pieces 42 = .ok (.iload_n 3, 1) := dget zdX9_pieces_0 26 rfl
theorem dX9_pieces_43 : decode cX9_pieces 43 = .ok (.aload_n 0, 1) := dget zdX9_pieces_0 27 rfl
theorem dX9_pieces_44 : decode cX9_pieces 44 = .ok (.invokevirtual 63, 3) := dget zdX9_pieces_0 28 rfl
theorem dX9_pieces_47 : decode cX9_pieces 47 = .ok (.if_icmp .ge 89, 3) := dget zdX9_pieces_0 29 rfl
theorem dX9_pieces_50 : decode cX9_pieces 50 = .ok (.iconst 0, 1) := dget zdX9_pieces_0 30 rfl
theorem dX9_pieces_51 : decode cX9_pieces 51 = .ok (.istore 4, 2) := dget zdX9_pieces_0 31 rfl
theorem dX9_pieces_53 : decode cX9_pieces 53 = .ok (.iload 4, 2) := dget zdX9_pieces_0 32 rfl
theorem dX9_pieces_55 : decode cX9_pieces 55 = .ok (.aload_n 0, 1) := dget zdX9_pieces_0 33 rfl
theorem dX9_pieces_56 : decode cX9_pieces 56 = .ok (.invokevirtual 63, 3) := dget zdX9_pieces_0 34 rfl
theorem dX9_pieces_59 : decode cX9_pieces 59 = .ok (.if_icmp .ge 71, 3) := dget zdX9_pieces_0 35 rfl
theorem dX9_pieces_62 : decode cX9_pieces 62 = .ok (.aload_n 0, 1) := dget zdX9_pieces_0 36 rfl
theorem dX9_pieces_63 : decode cX9_pieces 63 = .ok (.iload_n 3, 1) := dget zdX9_pieces_0 37 rfl
theorem dX9_pieces_64 : decode cX9_pieces 64 = .ok (.iload 4, 2) := dget zdX9_pieces_0 38 rfl
theorem dX9_pieces_66 : decode cX9_pieces 66 = .ok (.invokevirtual 183, 3) := dget zdX9_pieces_0 39 rfl
theorem dX9_pieces_69 : decode cX9_pieces 69 = .ok (.ifCond .eq 55, 3) := dget zdX9_pieces_0 40 rfl
theorem dX9_pieces_72 : decode cX9_pieces 72 = .ok (.aload_n 0, 1) := dget zdX9_pieces_0 41 rfl
theorem dX9_pieces_73 : decode cX9_pieces 73 = .ok (.getfield 13, 3) := dget zdX9_pieces_0 42 rfl
theorem dX9_pieces_76 : decode cX9_pieces 76 = .ok (.iload_n 3, 1) := dget zdX9_pieces_0 43 rfl
theorem dX9_pieces_77 : decode cX9_pieces 77 = .ok (.iaload, 1) := dget zdX9_pieces_0 44 rfl
theorem dX9_pieces_78 : decode cX9_pieces 78 = .ok (.iload_n 1, 1) := dget zdX9_pieces_0 45 rfl
theorem dX9_pieces_79 : decode cX9_pieces 79 = .ok (.if_icmp .ne 45, 3) := dget zdX9_pieces_0 46 rfl
theorem dX9_pieces_82 : decode cX9_pieces 82 = .ok (.aload_n 0, 1) := dget zdX9_pieces_0 47 rfl
theorem dX9_pieces_83 : decode cX9_pieces 83 = .ok (.getfield 13, 3) := dget zdX9_pieces_0 48 rfl
theorem dX9_pieces_86 : decode cX9_pieces 86 = .ok (.iload 4, 2) := dget zdX9_pieces_0 49 rfl
theorem dX9_pieces_88 : decode cX9_pieces 88 = .ok (.iaload, 1) := dget zdX9_pieces_0 50 rfl
theorem dX9_pieces_89 : decode cX9_pieces 89 = .ok (.iload_n 1, 1) := dget zdX9_pieces_0 51 rfl
theorem dX9_pieces_90 : decode cX9_pieces 90 = .ok (.if_icmp .ne 34, 3) := dget zdX9_pieces_0 52 rfl
theorem dX9_pieces_93 : decode cX9_pieces 93 = .ok (.aload_n 0, 1) := dget zdX9_pieces_0 53 rfl
theorem dX9_pieces_94 : decode cX9_pieces 94 = .ok (.getfield 43, 3) := dget zdX9_pieces_0 54 rfl
theorem dX9_pieces_97 : decode cX9_pieces 97 = .ok (.iload 4, 2) := dget zdX9_pieces_0 55 rfl
theorem dX9_pieces_99 : decode cX9_pieces 99 = .ok (.iaload, 1) := dget zdX9_pieces_0 56 rfl
theorem dX9_pieces_100 : decode cX9_pieces 100 = .ok (.aload_n 0, 1) := dget zdX9_pieces_0 57 rfl
theorem dX9_pieces_101 : decode cX9_pieces 101 = .ok (.getfield 43, 3) := dget zdX9_pieces_0 58 rfl
theorem dX9_pieces_104 : decode cX9_pieces 104 = .ok (.iload_n 3, 1) := dget zdX9_pieces_0 59 rfl
theorem dX9_pieces_105 : decode cX9_pieces 105 = .ok (.iaload, 1) := dget zdX9_pieces_0 60 rfl
theorem dX9_pieces_106 : decode cX9_pieces 106 = .ok (.if_icmp .ge 18, 3) := dget zdX9_pieces_0 61 rfl
theorem dX9_pieces_109 : decode cX9_pieces 109 = .ok (.aload_n 0, 1) := dget zdX9_pieces_0 62 rfl
theorem dX9_pieces_110 : decode cX9_pieces 110 = .ok (.getfield 43, 3) := dget zdX9_pieces_0 63 rfl
theorem dX9_pieces_113 : decode cX9_pieces 113 = .ok (.iload_n 3, 1) := dget zdX9_pieces_0 64 rfl
theorem dX9_pieces_114 : decode cX9_pieces 114 = .ok (.aload_n 0, 1) := dget zdX9_pieces_0 65 rfl
theorem dX9_pieces_115 : decode cX9_pieces 115 = .ok (.getfield 43, 3) := dget zdX9_pieces_0 66 rfl
theorem dX9_pieces_118 : decode cX9_pieces 118 = .ok (.iload 4, 2) := dget zdX9_pieces_0 67 rfl
theorem dX9_pieces_120 : decode cX9_pieces 120 = .ok (.iaload, 1) := dget zdX9_pieces_0 68 rfl
theorem dX9_pieces_121 : decode cX9_pieces 121 = .ok (.iastore, 1) := dget zdX9_pieces_0 69 rfl
theorem dX9_pieces_122 : decode cX9_pieces 122 = .ok (.iconst 1, 1) := dget zdX9_pieces_0 70 rfl
theorem dX9_pieces_123 : decode cX9_pieces 123 = .ok (.istore_n 2, 1) := dget zdX9_pieces_0 71 rfl
theorem dX9_pieces_124 : decode cX9_pieces 124 = .ok (.iinc 4 1, 3) := dget zdX9_pieces_0 72 rfl
theorem dX9_pieces_127 : decode cX9_pieces 127 = .ok (.goto (-74), 3) := dget zdX9_pieces_0 73 rfl
theorem dX9_pieces_130 : decode cX9_pieces 130 = .ok (.iinc 3 1, 3) := dget zdX9_pieces_0 74 rfl
theorem dX9_pieces_133 : decode cX9_pieces 133 = .ok (.goto (-91), 3) := dget zdX9_pieces_0 75 rfl
theorem dX9_pieces_136 : decode cX9_pieces 136 = .ok (.goto (-102), 3) := dget zdX9_pieces_0 76 rfl
theorem dX9_pieces_139 : decode cX9_pieces 139 = .ok (.iconst 0, 1) := dget zdX9_pieces_0 77 rfl
theorem dX9_pieces_140 : decode cX9_pieces 140 = .ok (.istore_n 3, 1) := dget zdX9_pieces_0 78 rfl
theorem dX9_pieces_141 : decode cX9_pieces 141 = .ok (.iconst 0, 1) := dget zdX9_pieces_0 79 rfl
theorem dX9_pieces_142 : decode cX9_pieces 142 = .ok (.istore 4, 2) := dget zdX9_pieces_0 80 rfl
theorem dX9_pieces_144 : decode cX9_pieces 144 = .ok (.iload 4, 2) := dget zdX9_pieces_0 81 rfl
theorem dX9_pieces_146 : decode cX9_pieces 146 = .ok (.aload_n 0, 1) := dget zdX9_pieces_0 82 rfl
theorem dX9_pieces_147 : decode cX9_pieces 147 = .ok (.invokevirtual 63, 3) := dget zdX9_pieces_0 83 rfl
theorem dX9_pieces_150 : decode cX9_pieces 150 = .ok (.if_icmp .ge 40, 3) := dget zdX9_pieces_0 84 rfl
theorem dX9_pieces_153 : decode cX9_pieces 153 = .ok (.iload_n 3, 1) := dget zdX9_pieces_0 85 rfl
theorem dX9_pieces_154 : decode cX9_pieces 154 = .ok (.aload_n 0, 1) := dget zdX9_pieces_0 86 rfl
theorem dX9_pieces_155 : decode cX9_pieces 155 = .ok (.getfield 13, 3) := dget zdX9_pieces_0 87 rfl
theorem dX9_pieces_158 : decode cX9_pieces 158 = .ok (.iload 4, 2) := dget zdX9_pieces_0 88 rfl
theorem dX9_pieces_160 : decode cX9_pieces 160 = .ok (.iaload, 1) := dget zdX9_pieces_0 89 rfl
theorem dX9_pieces_161 : decode cX9_pieces 161 = .ok (.iload_n 1, 1) := dget zdX9_pieces_0 90 rfl
theorem dX9_pieces_162 : decode cX9_pieces 162 = .ok (.if_icmp .ne 19, 3) := dget zdX9_pieces_0 91 rfl
theorem dX9_pieces_165 : decode cX9_pieces 165 = .ok (.aload_n 0, 1) := dget zdX9_pieces_0 92 rfl
theorem dX9_pieces_166 : decode cX9_pieces 166 = .ok (.getfield 43, 3) := dget zdX9_pieces_0 93 rfl
theorem dX9_pieces_169 : decode cX9_pieces 169 = .ok (.iload 4, 2) := dget zdX9_pieces_0 94 rfl
theorem dX9_pieces_171 : decode cX9_pieces 171 = .ok (.iaload, 1) := dget zdX9_pieces_0 95 rfl
theorem dX9_pieces_172 : decode cX9_pieces 172 = .ok (.iload 4, 2) := dget zdX9_pieces_0 96 rfl
theorem dX9_pieces_174 : decode cX9_pieces 174 = .ok (.if_icmp .ne 7, 3) := dget zdX9_pieces_0 97 rfl
theorem dX9_pieces_177 : decode cX9_pieces 177 = .ok (.iconst 1, 1) := dget zdX9_pieces_0 98 rfl
theorem dX9_pieces_178 : decode cX9_pieces 178 = .ok (.goto 4, 3) := dget zdX9_pieces_0 99 rfl
theorem dX9_pieces_181 : decode cX9_pieces 181 = .ok (.iconst 0, 1) := dget zdX9_pieces_0 100 rfl
theorem dX9_pieces_182 : decode cX9_pieces 182 = .ok (.iadd, 1) := dget zdX9_pieces_0 101 rfl
theorem dX9_pieces_183 : decode cX9_pieces 183 = .ok (.istore_n 3, 1) := dget zdX9_pieces_0 102 rfl
theorem dX9_pieces_184 : decode cX9_pieces 184 = .ok (.iinc 4 1, 3) := dget zdX9_pieces_0 103 rfl
theorem dX9_pieces_187 : decode cX9_pieces 187 = .ok (.goto (-43), 3) := dget zdX9_pieces_0 104 rfl
theorem dX9_pieces_190 : decode cX9_pieces 190 = .ok (.iload_n 3, 1) := dget zdX9_pieces_0 105 rfl
theorem dX9_pieces_191 : decode cX9_pieces 191 = .ok (.ireturn, 1) := dget zdX9_pieces_0 106 rfl
theorem zdX9_bridge_0 : dchk cX9_bridge [(0, .iload_n 1, 1), (1, .invokestatic 141, 3), (4, .ifCond .eq 19, 3), (7, .aload_n 0, 1), (8, .iload_n 2, 1), (9, .invokevirtual 131, 3), (12, .ifCond .eq 11, 3), (15, .aload_n 0, 1), (16, .iload_n 3, 1), (17, .invokevirtual 131, 3), (20, .ifCond .ne 5, 3), (23, .iconst (-1), 1), (24, .ireturn, 1), (25, .aload_n 0, 1), (26, .getfield 13, 3), (29, .iload_n 2, 1), (30, .iaload, 1), (31, .iload_n 1, 1), (32, .if_icmp .ne 13, 3), (35, .aload_n 0, 1), (36, .getfield 13, 3), (39, .iload_n 3, 1), (40, .iaload, 1), (41, .iload_n 1, 1), (42, .if_icmp .eq 6, 3), (45, .bipush (-2), 2), (47, .ireturn, 1), (48, .iconst 0, 1), (49, .istore 4, 2), (51, .iload 4, 2), (53, .aload_n 0, 1), (54, .invokevirtual 63, 3), (57, .if_icmp .ge 28, 3), (60, .aload_n 0, 1), (61, .getfield 43, 3), (64, .iload 4, 2), (66, .iload 4, 2), (68, .iload_n 2, 1), (69, .if_icmp .ne 7, 3), (72, .iconst 0, 1), (73, .goto 5, 3), (76, .ldc 187, 2), (78, .iastore, 1), (79, .iinc 4 1, 3), (82, .goto (-31), 3), (85, .iconst 1, 1), (86, .istore 4, 2), (88, .iload 4, 2), (90, .ifCond .eq 106, 3), (93, .iconst 0, 1), (94, .istore 4, 2), (96, .iconst 0, 1), (97, .istore 5, 2), (99, .iload 5, 2), (101, .aload_n 0, 1), (102, .invokevirtual 63, 3), (105, .if_icmp .ge 88, 3), (108, .iconst 0, 1), (109, .istore 6, 2), (111, .iload 6, 2), (113, .aload_n 0, 1), (114, .invokevirtual 63, 3), (117, .if_icmp .ge 70, 3), (120, .aload_n 0, 1), (121, .getfield 43, 3), (124, .iload 5, 2), (126, .iaload, 1), (127, .aload_n 0, 1), (128, .getfield 13, 3), (131, .iload 6, 2), (133, .iaload, 1), (134, .iload_n 1, 1), (135, .if_icmp .ne 7, 3), (138, .iconst 0, 1), (139, .goto 4, 3), (142, .iconst 1, 1), (143, .iadd, 1), (144, .istore 7, 2), (146, .aload_n 0, 1), (147, .iload 5, 2), (149, .iload 6, 2), (151, .invokevirtual 183, 3), (154, .ifCond .eq 27, 3), (157, .iload 7, 2), (159, .aload_n 0, 1), (160, .getfield 43, 3), (163, .iload 6, 2), (165, .iaload, 1), (166, .if_icmp .ge 15, 3), (169, .aload_n 0, 1), (170, .getfield 43, 3), (173, .iload 6, 2), (175, .iload 7, 2), (177, .iastore, 1), (178, .iconst 1, 1), (179, .istore 4, 2), (181, .iinc 6 1, 3), (184, .goto (-73), 3), (187, .iinc 5 1, 3), (190, .goto (-91), 3), (193, .goto (-105), 3), (196, .aload_n 0, 1), (197, .getfield 43, 3), (200, .iload_n 3, 1), (201, .iaload, 1), (202, .ireturn, 1)] = true := by decide +kernel
theorem dX9_bridge_0 : decode cX9_bridge 0 = .ok (.iload_n 1, 1) := dget zdX9_bridge_0 0 rfl
theorem dX9_bridge_1 : decode cX9_bridge 1 = .ok (.invokestatic 141, 3) := dget zdX9_bridge_0 1 rfl
theorem dX9_bridge_4 : decode cX9_bridge 4 = .ok (.ifCond .eq 19, 3) := dget zdX9_bridge_0 2 rfl
theorem dX9_bridge_7 : decode cX9_bridge 7 = .ok (.aload_n 0, 1) := dget zdX9_bridge_0 3 rfl
theorem dX9_bridge_8 : decode cX9_bridge 8 = .ok (.iload_n 2, 1) := dget zdX9_bridge_0 4 rfl
theorem dX9_bridge_9 : decode cX9_bridge 9 = .ok (.invokevirtual 131, 3) := dget zdX9_bridge_0 5 rfl
theorem dX9_bridge_12 : decode cX9_bridge 12 = .ok (.ifCond .eq 11, 3) := dget zdX9_bridge_0 6 rfl
theorem dX9_bridge_15 : decode cX9_bridge 15 = .ok (.aload_n 0, 1) := dget zdX9_bridge_0 7 rfl
theorem dX9_bridge_16 : decode cX9_bridge 16 = .ok (.iload_n 3, 1) := dget zdX9_bridge_0 8 rfl
theorem dX9_bridge_17 : decode cX9_bridge 17 = .ok (.invokevirtual 131, 3) := dget zdX9_bridge_0 9 rfl
theorem dX9_bridge_20 : decode cX9_bridge 20 = .ok (.ifCond .ne 5, 3) := dget zdX9_bridge_0 10 rfl
theorem dX9_bridge_23 : decode cX9_bridge 23 = .ok (.iconst (-1), 1) := dget zdX9_bridge_0 11 rfl
theorem dX9_bridge_24 : decode cX9_bridge 24 = .ok (.ireturn, 1) := dget zdX9_bridge_0 12 rfl
theorem dX9_bridge_25 : decode cX9_bridge 25 = .ok (.aload_n 0, 1) := dget zdX9_bridge_0 13 rfl
theorem dX9_bridge_26 : decode cX9_bridge 26 = .ok (.getfield 13, 3) := dget zdX9_bridge_0 14 rfl
theorem dX9_bridge_29 : decode cX9_bridge 29 = .ok (.iload_n 2, 1) := dget zdX9_bridge_0 15 rfl
theorem dX9_bridge_30 : decode cX9_bridge 30 = .ok (.iaload, 1) := dget zdX9_bridge_0 16 rfl
theorem dX9_bridge_31 : decode cX9_bridge 31 = .ok (.iload_n 1, 1) := dget zdX9_bridge_0 17 rfl
theorem dX9_bridge_32 : decode cX9_bridge 32 = .ok (.if_icmp .ne 13, 3) := dget zdX9_bridge_0 18 rfl
theorem dX9_bridge_35 : decode cX9_bridge 35 = .ok (.aload_n 0, 1) := dget zdX9_bridge_0 19 rfl
theorem dX9_bridge_36 : decode cX9_bridge 36 = .ok (.getfield 13, 3) := dget zdX9_bridge_0 20 rfl
theorem dX9_bridge_39 : decode cX9_bridge 39 = .ok (.iload_n 3, 1) := dget zdX9_bridge_0 21 rfl
theorem dX9_bridge_40 : decode cX9_bridge 40 = .ok (.iaload, 1) := dget zdX9_bridge_0 22 rfl
theorem dX9_bridge_41 : decode cX9_bridge 41 = .ok (.iload_n 1, 1) := dget zdX9_bridge_0 23 rfl
theorem dX9_bridge_42 : decode cX9_bridge 42 = .ok (.if_icmp .eq 6, 3) := dget zdX9_bridge_0 24 rfl
theorem dX9_bridge_45 : decode cX9_bridge 45 = .ok (.bipush (-2), 2) := dget zdX9_bridge_0 25 rfl
theorem dX9_bridge_47 : decode cX9_bridge 47 = .ok (.ireturn, 1) := dget zdX9_bridge_0 26 rfl
theorem dX9_bridge_48 : decode cX9_bridge 48 = .ok (.iconst 0, 1) := dget zdX9_bridge_0 27 rfl
theorem dX9_bridge_49 : decode cX9_bridge 49 = .ok (.istore 4, 2) := dget zdX9_bridge_0 28 rfl
theorem dX9_bridge_51 : decode cX9_bridge 51 = .ok (.iload 4, 2) := dget zdX9_bridge_0 29 rfl
theorem dX9_bridge_53 : decode cX9_bridge 53 = .ok (.aload_n 0, 1) := dget zdX9_bridge_0 30 rfl
theorem dX9_bridge_54 : decode cX9_bridge 54 = .ok (.invokevirtual 63, 3) := dget zdX9_bridge_0 31 rfl
theorem dX9_bridge_57 : decode cX9_bridge 57 = .ok (.if_icmp .ge 28, 3) := dget zdX9_bridge_0 32 rfl
theorem dX9_bridge_60 : decode cX9_bridge 60 = .ok (.aload_n 0, 1) := dget zdX9_bridge_0 33 rfl
theorem dX9_bridge_61 : decode cX9_bridge 61 = .ok (.getfield 43, 3) := dget zdX9_bridge_0 34 rfl
theorem dX9_bridge_64 : decode cX9_bridge 64 = .ok (.iload 4, 2) := dget zdX9_bridge_0 35 rfl
theorem dX9_bridge_66 : decode cX9_bridge 66 = .ok (.iload 4, 2) := dget zdX9_bridge_0 36 rfl
theorem dX9_bridge_68 : decode cX9_bridge 68 = .ok (.iload_n 2, 1) := dget zdX9_bridge_0 37 rfl
theorem dX9_bridge_69 : decode cX9_bridge 69 = .ok (.if_icmp .ne 7, 3) := dget zdX9_bridge_0 38 rfl
theorem dX9_bridge_72 : decode cX9_bridge 72 = .ok (.iconst 0, 1) := dget zdX9_bridge_0 39 rfl
theorem dX9_bridge_73 : decode cX9_bridge 73 = .ok (.goto 5, 3) := dget zdX9_bridge_0 40 rfl
theorem dX9_bridge_76 : decode cX9_bridge 76 = .ok (.ldc 187, 2) := dget zdX9_bridge_0 41 rfl
theorem dX9_bridge_78 : decode cX9_bridge 78 = .ok (.iastore, 1) := dget zdX9_bridge_0 42 rfl
theorem dX9_bridge_79 : decode cX9_bridge 79 = .ok (.iinc 4 1, 3) := dget zdX9_bridge_0 43 rfl
theorem dX9_bridge_82 : decode cX9_bridge 82 = .ok (.goto (-31), 3) := dget zdX9_bridge_0 44 rfl
theorem dX9_bridge_85 : decode cX9_bridge 85 = .ok (.iconst 1, 1) := dget zdX9_bridge_0 45 rfl
theorem dX9_bridge_86 : decode cX9_bridge 86 = .ok (.istore 4, 2) := dget zdX9_bridge_0 46 rfl
theorem dX9_bridge_88 : decode cX9_bridge 88 = .ok (.iload 4, 2) := dget zdX9_bridge_0 47 rfl
theorem dX9_bridge_90 : decode cX9_bridge 90 = .ok (.ifCond .eq 106, 3) := dget zdX9_bridge_0 48 rfl
theorem dX9_bridge_93 : decode cX9_bridge 93 = .ok (.iconst 0, 1) := dget zdX9_bridge_0 49 rfl
theorem dX9_bridge_94 : decode cX9_bridge 94 = .ok (.istore 4, 2) := dget zdX9_bridge_0 50 rfl
theorem dX9_bridge_96 : decode cX9_bridge 96 = .ok (.iconst 0, 1) := dget zdX9_bridge_0 51 rfl
theorem dX9_bridge_97 : decode cX9_bridge 97 = .ok (.istore 5, 2) := dget zdX9_bridge_0 52 rfl
theorem dX9_bridge_99 : decode cX9_bridge 99 = .ok (.iload 5, 2) := dget zdX9_bridge_0 53 rfl
theorem dX9_bridge_101 : decode cX9_bridge 101 = .ok (.aload_n 0, 1) := dget zdX9_bridge_0 54 rfl
theorem dX9_bridge_102 : decode cX9_bridge 102 = .ok (.invokevirtual 63, 3) := dget zdX9_bridge_0 55 rfl
theorem dX9_bridge_105 : decode cX9_bridge 105 = .ok (.if_icmp .ge 88, 3) := dget zdX9_bridge_0 56 rfl
theorem dX9_bridge_108 : decode cX9_bridge 108 = .ok (.iconst 0, 1) := dget zdX9_bridge_0 57 rfl
theorem dX9_bridge_109 : decode cX9_bridge 109 = .ok (.istore 6, 2) := dget zdX9_bridge_0 58 rfl
theorem dX9_bridge_111 : decode cX9_bridge 111 = .ok (.iload 6, 2) := dget zdX9_bridge_0 59 rfl
theorem dX9_bridge_113 : decode cX9_bridge 113 = .ok (.aload_n 0, 1) := dget zdX9_bridge_0 60 rfl
theorem dX9_bridge_114 : decode cX9_bridge 114 = .ok (.invokevirtual 63, 3) := dget zdX9_bridge_0 61 rfl
theorem dX9_bridge_117 : decode cX9_bridge 117 = .ok (.if_icmp .ge 70, 3) := dget zdX9_bridge_0 62 rfl
theorem dX9_bridge_120 : decode cX9_bridge 120 = .ok (.aload_n 0, 1) := dget zdX9_bridge_0 63 rfl
theorem dX9_bridge_121 : decode cX9_bridge 121 = .ok (.getfield 43, 3) := dget zdX9_bridge_0 64 rfl
theorem dX9_bridge_124 : decode cX9_bridge 124 = .ok (.iload 5, 2) := dget zdX9_bridge_0 65 rfl
theorem dX9_bridge_126 : decode cX9_bridge 126 = .ok (.iaload, 1) := dget zdX9_bridge_0 66 rfl
theorem dX9_bridge_127 : decode cX9_bridge 127 = .ok (.aload_n 0, 1) := dget zdX9_bridge_0 67 rfl
theorem dX9_bridge_128 : decode cX9_bridge 128 = .ok (.getfield 13, 3) := dget zdX9_bridge_0 68 rfl
theorem dX9_bridge_131 : decode cX9_bridge 131 = .ok (.iload 6, 2) := dget zdX9_bridge_0 69 rfl
theorem dX9_bridge_133 : decode cX9_bridge 133 = .ok (.iaload, 1) := dget zdX9_bridge_0 70 rfl
theorem dX9_bridge_134 : decode cX9_bridge 134 = .ok (.iload_n 1, 1) := dget zdX9_bridge_0 71 rfl
theorem dX9_bridge_135 : decode cX9_bridge 135 = .ok (.if_icmp .ne 7, 3) := dget zdX9_bridge_0 72 rfl
theorem dX9_bridge_138 : decode cX9_bridge 138 = .ok (.iconst 0, 1) := dget zdX9_bridge_0 73 rfl
theorem dX9_bridge_139 : decode cX9_bridge 139 = .ok (.goto 4, 3) := dget zdX9_bridge_0 74 rfl
theorem dX9_bridge_142 : decode cX9_bridge 142 = .ok (.iconst 1, 1) := dget zdX9_bridge_0 75 rfl
theorem dX9_bridge_143 : decode cX9_bridge 143 = .ok (.iadd, 1) := dget zdX9_bridge_0 76 rfl
theorem dX9_bridge_144 : decode cX9_bridge 144 = .ok (.istore 7, 2) := dget zdX9_bridge_0 77 rfl
theorem dX9_bridge_146 : decode cX9_bridge 146 = .ok (.aload_n 0, 1) := dget zdX9_bridge_0 78 rfl
theorem dX9_bridge_147 : decode cX9_bridge 147 = .ok (.iload 5, 2) := dget zdX9_bridge_0 79 rfl
theorem dX9_bridge_149 : decode cX9_bridge 149 = .ok (.iload 6, 2) := dget zdX9_bridge_0 80 rfl
theorem dX9_bridge_151 : decode cX9_bridge 151 = .ok (.invokevirtual 183, 3) := dget zdX9_bridge_0 81 rfl
theorem dX9_bridge_154 : decode cX9_bridge 154 = .ok (.ifCond .eq 27, 3) := dget zdX9_bridge_0 82 rfl
theorem dX9_bridge_157 : decode cX9_bridge 157 = .ok (.iload 7, 2) := dget zdX9_bridge_0 83 rfl
theorem dX9_bridge_159 : decode cX9_bridge 159 = .ok (.aload_n 0, 1) := dget zdX9_bridge_0 84 rfl
theorem dX9_bridge_160 : decode cX9_bridge 160 = .ok (.getfield 43, 3) := dget zdX9_bridge_0 85 rfl
theorem dX9_bridge_163 : decode cX9_bridge 163 = .ok (.iload 6, 2) := dget zdX9_bridge_0 86 rfl
theorem dX9_bridge_165 : decode cX9_bridge 165 = .ok (.iaload, 1) := dget zdX9_bridge_0 87 rfl
theorem dX9_bridge_166 : decode cX9_bridge 166 = .ok (.if_icmp .ge 15, 3) := dget zdX9_bridge_0 88 rfl
theorem dX9_bridge_169 : decode cX9_bridge 169 = .ok (.aload_n 0, 1) := dget zdX9_bridge_0 89 rfl
theorem dX9_bridge_170 : decode cX9_bridge 170 = .ok (.getfield 43, 3) := dget zdX9_bridge_0 90 rfl
theorem dX9_bridge_173 : decode cX9_bridge 173 = .ok (.iload 6, 2) := dget zdX9_bridge_0 91 rfl
theorem dX9_bridge_175 : decode cX9_bridge 175 = .ok (.iload 7, 2) := dget zdX9_bridge_0 92 rfl
theorem dX9_bridge_177 : decode cX9_bridge 177 = .ok (.iastore, 1) := dget zdX9_bridge_0 93 rfl
theorem dX9_bridge_178 : decode cX9_bridge 178 = .ok (.iconst 1, 1) := dget zdX9_bridge_0 94 rfl
theorem dX9_bridge_179 : decode cX9_bridge 179 = .ok (.istore 4, 2) := dget zdX9_bridge_0 95 rfl
theorem dX9_bridge_181 : decode cX9_bridge 181 = .ok (.iinc 6 1, 3) := dget zdX9_bridge_0 96 rfl
theorem dX9_bridge_184 : decode cX9_bridge 184 = .ok (.goto (-73), 3) := dget zdX9_bridge_0 97 rfl
theorem dX9_bridge_187 : decode cX9_bridge 187 = .ok (.iinc 5 1, 3) := dget zdX9_bridge_0 98 rfl
theorem dX9_bridge_190 : decode cX9_bridge 190 = .ok (.goto (-91), 3) := dget zdX9_bridge_0 99 rfl
theorem dX9_bridge_193 : decode cX9_bridge 193 = .ok (.goto (-105), 3) := dget zdX9_bridge_0 100 rfl
theorem dX9_bridge_196 : decode cX9_bridge 196 = .ok (.aload_n 0, 1) := dget zdX9_bridge_0 101 rfl
theorem dX9_bridge_197 : decode cX9_bridge 197 = .ok (.getfield 43, 3) := dget zdX9_bridge_0 102 rfl
theorem dX9_bridge_200 : decode cX9_bridge 200 = .ok (.iload_n 3, 1) := dget zdX9_bridge_0 103 rfl
theorem dX9_bridge_201 : decode cX9_bridge 201 = .ok (.iaload, 1) := dget zdX9_bridge_0 104 rfl
theorem dX9_bridge_202 : decode cX9_bridge 202 = .ok (.ireturn, 1) := dget zdX9_bridge_0 105 rfl
theorem zdX9_isEnd_0 : dchk cX9_isEnd [(0, .aload_n 0, 1), (1, .iload_n 1, 1), (2, .invokevirtual 131, 3), (5, .ifCond .ne 9, 3), (8, .iload_n 1, 1), (9, .bipush 99, 2), (11, .if_icmp .ne 7, 3), (14, .iconst 1, 1), (15, .goto 4, 3), (18, .iconst 0, 1), (19, .ireturn, 1)] = true := by decide +kernel
theorem dX9_isEnd_0 : decode cX9_isEnd 0 = .ok (.aload_n 0, 1) := dget zdX9_isEnd_0 0 rfl
theorem dX9_isEnd_1 : decode cX9_isEnd 1 = .ok (.iload_n 1, 1) := dget zdX9_isEnd_0 1 rfl
theorem dX9_isEnd_2 : decode cX9_isEnd 2 = .ok (.invokevirtual 131, 3) := dget zdX9_isEnd_0 2 rfl
theorem dX9_isEnd_5 : decode cX9_isEnd 5 = .ok (.ifCond .ne 9, 3) := dget zdX9_isEnd_0 3 rfl
theorem dX9_isEnd_8 : decode cX9_isEnd 8 = .ok (.iload_n 1, 1) := dget zdX9_isEnd_0 4 rfl
theorem dX9_isEnd_9 : decode cX9_isEnd 9 = .ok (.bipush 99, 2) := dget zdX9_isEnd_0 5 rfl
theorem dX9_isEnd_11 : decode cX9_isEnd 11 = .ok (.if_icmp .ne 7, 3) := dget zdX9_isEnd_0 6 rfl
theorem dX9_isEnd_14 : decode cX9_isEnd 14 = .ok (.iconst 1, 1) := dget zdX9_isEnd_0 7 rfl
theorem dX9_isEnd_15 : decode cX9_isEnd 15 = .ok (.goto 4, 3) := dget zdX9_isEnd_0 8 rfl
theorem dX9_isEnd_18 : decode cX9_isEnd 18 = .ok (.iconst 0, 1) := dget zdX9_isEnd_0 9 rfl
theorem dX9_isEnd_19 : decode cX9_isEnd 19 = .ok (.ireturn, 1) := dget zdX9_isEnd_0 10 rfl
theorem zdX9_seen_0 : dchk cX9_seen [(0, .aload_n 0, 1), (1, .iload_n 1, 1), (2, .iload_n 2, 1), (3, .iconst 0, 1), (4, .invokevirtual 134, 3), (7, .ifCond .eq 11, 3), (10, .aload_n 0, 1), (11, .iload_n 3, 1), (12, .invokevirtual 188, 3), (15, .ifCond .ne 5, 3), (18, .iconst (-1), 1), (19, .ireturn, 1), (20, .aload_n 0, 1), (21, .getfield 118, 3), (24, .bipush 6, 2), (26, .if_icmp .ne 6, 3), (29, .bipush (-3), 2), (31, .ireturn, 1), (32, .aload_n 0, 1), (33, .getfield 16, 3), (36, .aload_n 0, 1), (37, .getfield 118, 3), (40, .iload_n 1, 1), (41, .iastore, 1), (42, .aload_n 0, 1), (43, .getfield 19, 3), (46, .aload_n 0, 1), (47, .getfield 118, 3), (50, .iload_n 2, 1), (51, .iastore, 1), (52, .aload_n 0, 1), (53, .getfield 22, 3), (56, .aload_n 0, 1), (57, .getfield 118, 3), (60, .iload_n 3, 1), (61, .iastore, 1), (62, .aload_n 0, 1), (63, .dup, 1), (64, .getfield 118, 3), (67, .iconst 1, 1), (68, .iadd, 1), (69, .putfield 118, 3), (72, .aload_n 0, 1), (73, .getfield 118, 3), (76, .ireturn, 1)] = true := by decide +kernel
theorem dX9_seen_0 : decode cX9_seen 0 = .ok (.aload_n 0, 1) := dget zdX9_seen_0 0 rfl
theorem dX9_seen_1 : decode cX9_seen 1 = .ok (.iload_n 1, 1) := dget zdX9_seen_0 1 rfl
theorem dX9_seen_2 : decode cX9_seen 2 = .ok (.iload_n 2, 1) := dget zdX9_seen_0 2 rfl
theorem dX9_seen_3 : decode cX9_seen 3 = .ok (.iconst 0, 1) := dget zdX9_seen_0 3 rfl
theorem dX9_seen_4 : decode cX9_seen 4 = .ok (.invokevirtual 134, 3) := dget zdX9_seen_0 4 rfl
theorem dX9_seen_7 : decode cX9_seen 7 = .ok (.ifCond .eq 11, 3) := dget zdX9_seen_0 5 rfl
theorem dX9_seen_10 : decode cX9_seen 10 = .ok (.aload_n 0, 1) := dget zdX9_seen_0 6 rfl
theorem dX9_seen_11 : decode cX9_seen 11 = .ok (.iload_n 3, 1) := dget zdX9_seen_0 7 rfl
theorem dX9_seen_12 : decode cX9_seen 12 = .ok (.invokevirtual 188, 3) := dget zdX9_seen_0 8 rfl
theorem dX9_seen_15 : decode cX9_seen 15 = .ok (.ifCond .ne 5, 3) := dget zdX9_seen_0 9 rfl
theorem dX9_seen_18 : decode cX9_seen 18 = .ok (.iconst (-1), 1) := dget zdX9_seen_0 10 rfl
theorem dX9_seen_19 : decode cX9_seen 19 = .ok (.ireturn, 1) := dget zdX9_seen_0 11 rfl
theorem dX9_seen_20 : decode cX9_seen 20 = .ok (.aload_n 0, 1) := dget zdX9_seen_0 12 rfl
theorem dX9_seen_21 : decode cX9_seen 21 = .ok (.getfield 118, 3) := dget zdX9_seen_0 13 rfl
theorem dX9_seen_24 : decode cX9_seen 24 = .ok (.bipush 6, 2) := dget zdX9_seen_0 14 rfl
theorem dX9_seen_26 : decode cX9_seen 26 = .ok (.if_icmp .ne 6, 3) := dget zdX9_seen_0 15 rfl
theorem dX9_seen_29 : decode cX9_seen 29 = .ok (.bipush (-3), 2) := dget zdX9_seen_0 16 rfl
theorem dX9_seen_31 : decode cX9_seen 31 = .ok (.ireturn, 1) := dget zdX9_seen_0 17 rfl
theorem dX9_seen_32 : decode cX9_seen 32 = .ok (.aload_n 0, 1) := dget zdX9_seen_0 18 rfl
theorem dX9_seen_33 : decode cX9_seen 33 = .ok (.getfield 16, 3) := dget zdX9_seen_0 19 rfl
theorem dX9_seen_36 : decode cX9_seen 36 = .ok (.aload_n 0, 1) := dget zdX9_seen_0 20 rfl
theorem dX9_seen_37 : decode cX9_seen 37 = .ok (.getfield 118, 3) := dget zdX9_seen_0 21 rfl
theorem dX9_seen_40 : decode cX9_seen 40 = .ok (.iload_n 1, 1) := dget zdX9_seen_0 22 rfl
theorem dX9_seen_41 : decode cX9_seen 41 = .ok (.iastore, 1) := dget zdX9_seen_0 23 rfl
theorem dX9_seen_42 : decode cX9_seen 42 = .ok (.aload_n 0, 1) := dget zdX9_seen_0 24 rfl
theorem dX9_seen_43 : decode cX9_seen 43 = .ok (.getfield 19, 3) := dget zdX9_seen_0 25 rfl
theorem dX9_seen_46 : decode cX9_seen 46 = .ok (.aload_n 0, 1) := dget zdX9_seen_0 26 rfl
theorem dX9_seen_47 : decode cX9_seen 47 = .ok (.getfield 118, 3) := dget zdX9_seen_0 27 rfl
theorem dX9_seen_50 : decode cX9_seen 50 = .ok (.iload_n 2, 1) := dget zdX9_seen_0 28 rfl
theorem dX9_seen_51 : decode cX9_seen 51 = .ok (.iastore, 1) := dget zdX9_seen_0 29 rfl
theorem dX9_seen_52 : decode cX9_seen 52 = .ok (.aload_n 0, 1) := dget zdX9_seen_0 30 rfl
theorem dX9_seen_53 : decode cX9_seen 53 = .ok (.getfield 22, 3) := dget zdX9_seen_0 31 rfl
theorem dX9_seen_56 : decode cX9_seen 56 = .ok (.aload_n 0, 1) := dget zdX9_seen_0 32 rfl
theorem dX9_seen_57 : decode cX9_seen 57 = .ok (.getfield 118, 3) := dget zdX9_seen_0 33 rfl
theorem dX9_seen_60 : decode cX9_seen 60 = .ok (.iload_n 3, 1) := dget zdX9_seen_0 34 rfl
theorem dX9_seen_61 : decode cX9_seen 61 = .ok (.iastore, 1) := dget zdX9_seen_0 35 rfl
theorem dX9_seen_62 : decode cX9_seen 62 = .ok (.aload_n 0, 1) := dget zdX9_seen_0 36 rfl
theorem dX9_seen_63 : decode cX9_seen 63 = .ok (.dup, 1) := dget zdX9_seen_0 37 rfl
theorem dX9_seen_64 : decode cX9_seen 64 = .ok (.getfield 118, 3) := dget zdX9_seen_0 38 rfl
theorem dX9_seen_67 : decode cX9_seen 67 = .ok (.iconst 1, 1) := dget zdX9_seen_0 39 rfl
theorem dX9_seen_68 : decode cX9_seen 68 = .ok (.iadd, 1) := dget zdX9_seen_0 40 rfl
theorem dX9_seen_69 : decode cX9_seen 69 = .ok (.putfield 118, 3) := dget zdX9_seen_0 41 rfl
theorem dX9_seen_72 : decode cX9_seen 72 = .ok (.aload_n 0, 1) := dget zdX9_seen_0 42 rfl
theorem dX9_seen_73 : decode cX9_seen 73 = .ok (.getfield 118, 3) := dget zdX9_seen_0 43 rfl
theorem dX9_seen_76 : decode cX9_seen 76 = .ok (.ireturn, 1) := dget zdX9_seen_0 44 rfl
theorem zdX9_forget_0 : dchk cX9_forget [(0, .aload_n 0, 1), (1, .getfield 118, 3), (4, .istore_n 1, 1), (5, .aload_n 0, 1), (6, .iconst 0, 1), (7, .putfield 118, 3), (10, .iload_n 1, 1), (11, .ireturn, 1)] = true := by decide +kernel
theorem dX9_forget_0 : decode cX9_forget 0 = .ok (.aload_n 0, 1) := dget zdX9_forget_0 0 rfl
theorem dX9_forget_1 : decode cX9_forget 1 = .ok (.getfield 118, 3) := dget zdX9_forget_0 1 rfl
theorem dX9_forget_4 : decode cX9_forget 4 = .ok (.istore_n 1, 1) := dget zdX9_forget_0 2 rfl
theorem dX9_forget_5 : decode cX9_forget 5 = .ok (.aload_n 0, 1) := dget zdX9_forget_0 3 rfl
theorem dX9_forget_6 : decode cX9_forget 6 = .ok (.iconst 0, 1) := dget zdX9_forget_0 4 rfl
theorem dX9_forget_7 : decode cX9_forget 7 = .ok (.putfield 118, 3) := dget zdX9_forget_0 5 rfl
theorem dX9_forget_10 : decode cX9_forget 10 = .ok (.iload_n 1, 1) := dget zdX9_forget_0 6 rfl
theorem dX9_forget_11 : decode cX9_forget 11 = .ok (.ireturn, 1) := dget zdX9_forget_0 7 rfl
theorem zdX9_isSo_0 : dchk cX9_isSo [(0, .iconst 1, 1), (1, .istore_n 1, 1), (2, .iconst 0, 1), (3, .istore_n 2, 1), (4, .iload_n 2, 1), (5, .aload_n 0, 1), (6, .getfield 118, 3), (9, .if_icmp .ge 45, 3), (12, .iload_n 1, 1), (13, .ifCond .eq 33, 3), (16, .aload_n 0, 1), (17, .aload_n 0, 1), (18, .getfield 16, 3), (21, .iload_n 2, 1), (22, .iaload, 1), (23, .aload_n 0, 1), (24, .getfield 19, 3), (27, .iload_n 2, 1), (28, .iaload, 1), (29, .iconst 0, 1), (30, .invokevirtual 137, 3), (33, .aload_n 0, 1), (34, .getfield 22, 3), (37, .iload_n 2, 1), (38, .iaload, 1), (39, .if_icmp .ne 7, 3), (42, .iconst 1, 1), (43, .goto 4, 3), (46, .iconst 0, 1), (47, .istore_n 1, 1), (48, .iinc 2 1, 3), (51, .goto (-47), 3), (54, .iload_n 1, 1), (55, .ireturn, 1)] = true := by decide +kernel
theorem dX9_isSo_0 : decode cX9_isSo 0 = .ok (.iconst 1, 1) := dget zdX9_isSo_0 0 rfl
theorem dX9_isSo_1 : decode cX9_isSo 1 = .ok (.istore_n 1, 1) := dget zdX9_isSo_0 1 rfl
theorem dX9_isSo_2 : decode cX9_isSo 2 = .ok (.iconst 0, 1) := dget zdX9_isSo_0 2 rfl
theorem dX9_isSo_3 : decode cX9_isSo 3 = .ok (.istore_n 2, 1) := dget zdX9_isSo_0 3 rfl
theorem dX9_isSo_4 : decode cX9_isSo 4 = .ok (.iload_n 2, 1) := dget zdX9_isSo_0 4 rfl
theorem dX9_isSo_5 : decode cX9_isSo 5 = .ok (.aload_n 0, 1) := dget zdX9_isSo_0 5 rfl
theorem dX9_isSo_6 : decode cX9_isSo 6 = .ok (.getfield 118, 3) := dget zdX9_isSo_0 6 rfl
theorem dX9_isSo_9 : decode cX9_isSo 9 = .ok (.if_icmp .ge 45, 3) := dget zdX9_isSo_0 7 rfl
theorem dX9_isSo_12 : decode cX9_isSo 12 = .ok (.iload_n 1, 1) := dget zdX9_isSo_0 8 rfl
theorem dX9_isSo_13 : decode cX9_isSo 13 = .ok (.ifCond .eq 33, 3) := dget zdX9_isSo_0 9 rfl
theorem dX9_isSo_16 : decode cX9_isSo 16 = .ok (.aload_n 0, 1) := dget zdX9_isSo_0 10 rfl
theorem dX9_isSo_17 : decode cX9_isSo 17 = .ok (.aload_n 0, 1) := dget zdX9_isSo_0 11 rfl
theorem dX9_isSo_18 : decode cX9_isSo 18 = .ok (.getfield 16, 3) := dget zdX9_isSo_0 12 rfl
theorem dX9_isSo_21 : decode cX9_isSo 21 = .ok (.iload_n 2, 1) := dget zdX9_isSo_0 13 rfl
theorem dX9_isSo_22 : decode cX9_isSo 22 = .ok (.iaload, 1) := dget zdX9_isSo_0 14 rfl
theorem dX9_isSo_23 : decode cX9_isSo 23 = .ok (.aload_n 0, 1) := dget zdX9_isSo_0 15 rfl
theorem dX9_isSo_24 : decode cX9_isSo 24 = .ok (.getfield 19, 3) := dget zdX9_isSo_0 16 rfl
theorem dX9_isSo_27 : decode cX9_isSo 27 = .ok (.iload_n 2, 1) := dget zdX9_isSo_0 17 rfl
theorem dX9_isSo_28 : decode cX9_isSo 28 = .ok (.iaload, 1) := dget zdX9_isSo_0 18 rfl
theorem dX9_isSo_29 : decode cX9_isSo 29 = .ok (.iconst 0, 1) := dget zdX9_isSo_0 19 rfl
theorem dX9_isSo_30 : decode cX9_isSo 30 = .ok (.invokevirtual 137, 3) := dget zdX9_isSo_0 20 rfl
theorem dX9_isSo_33 : decode cX9_isSo 33 = .ok (.aload_n 0, 1) := dget zdX9_isSo_0 21 rfl
theorem dX9_isSo_34 : decode cX9_isSo 34 = .ok (.getfield 22, 3) := dget zdX9_isSo_0 22 rfl
theorem dX9_isSo_37 : decode cX9_isSo 37 = .ok (.iload_n 2, 1) := dget zdX9_isSo_0 23 rfl
theorem dX9_isSo_38 : decode cX9_isSo 38 = .ok (.iaload, 1) := dget zdX9_isSo_0 24 rfl
theorem dX9_isSo_39 : decode cX9_isSo 39 = .ok (.if_icmp .ne 7, 3) := dget zdX9_isSo_0 25 rfl
theorem dX9_isSo_42 : decode cX9_isSo 42 = .ok (.iconst 1, 1) := dget zdX9_isSo_0 26 rfl
theorem dX9_isSo_43 : decode cX9_isSo 43 = .ok (.goto 4, 3) := dget zdX9_isSo_0 27 rfl
theorem dX9_isSo_46 : decode cX9_isSo 46 = .ok (.iconst 0, 1) := dget zdX9_isSo_0 28 rfl
theorem dX9_isSo_47 : decode cX9_isSo 47 = .ok (.istore_n 1, 1) := dget zdX9_isSo_0 29 rfl
theorem dX9_isSo_48 : decode cX9_isSo 48 = .ok (.iinc 2 1, 3) := dget zdX9_isSo_0 30 rfl
theorem dX9_isSo_51 : decode cX9_isSo 51 = .ok (.goto (-47), 3) := dget zdX9_isSo_0 31 rfl
theorem dX9_isSo_54 : decode cX9_isSo 54 = .ok (.iload_n 1, 1) := dget zdX9_isSo_0 32 rfl
theorem dX9_isSo_55 : decode cX9_isSo 55 = .ok (.ireturn, 1) := dget zdX9_isSo_0 33 rfl
theorem zdX9_lies_0 : dchk cX9_lies [(0, .aload_n 0, 1), (1, .iload_n 1, 1), (2, .invokevirtual 131, 3), (5, .ifCond .ne 5, 3), (8, .iconst (-1), 1), (9, .ireturn, 1), (10, .aload_n 0, 1), (11, .getfield 7, 3), (14, .iload_n 1, 1), (15, .iaload, 1), (16, .istore_n 2, 1), (17, .iconst 0, 1), (18, .istore_n 3, 1), (19, .iconst 0, 1), (20, .istore 4, 2), (22, .iload 4, 2), (24, .iconst 3, 1), (25, .if_icmp .gt 35, 3), (28, .aload_n 0, 1), (29, .getfield 7, 3), (32, .iload_n 1, 1), (33, .iload 4, 2), (35, .iastore, 1), (36, .iload_n 3, 1), (37, .aload_n 0, 1), (38, .invokevirtual 191, 3), (41, .ifCond .eq 10, 3), (44, .iconst 1, 1), (45, .iload 4, 2), (47, .ishl, 1), (48, .goto 4, 3), (51, .iconst 0, 1), (52, .ior, 1), (53, .istore_n 3, 1), (54, .iinc 4 1, 3), (57, .goto (-35), 3), (60, .aload_n 0, 1), (61, .getfield 7, 3), (64, .iload_n 1, 1), (65, .iload_n 2, 1), (66, .iastore, 1), (67, .iload_n 3, 1), (68, .ireturn, 1)] = true := by decide +kernel
theorem dX9_lies_0 : decode cX9_lies 0 = .ok (.aload_n 0, 1) := dget zdX9_lies_0 0 rfl
theorem dX9_lies_1 : decode cX9_lies 1 = .ok (.iload_n 1, 1) := dget zdX9_lies_0 1 rfl
theorem dX9_lies_2 : decode cX9_lies 2 = .ok (.invokevirtual 131, 3) := dget zdX9_lies_0 2 rfl
theorem dX9_lies_5 : decode cX9_lies 5 = .ok (.ifCond .ne 5, 3) := dget zdX9_lies_0 3 rfl
theorem dX9_lies_8 : decode cX9_lies 8 = .ok (.iconst (-1), 1) := dget zdX9_lies_0 4 rfl
theorem dX9_lies_9 : decode cX9_lies 9 = .ok (.ireturn, 1) := dget zdX9_lies_0 5 rfl
theorem dX9_lies_10 : decode cX9_lies 10 = .ok (.aload_n 0, 1) := dget zdX9_lies_0 6 rfl
theorem dX9_lies_11 : decode cX9_lies 11 = .ok (.getfield 7, 3) := dget zdX9_lies_0 7 rfl
theorem dX9_lies_14 : decode cX9_lies 14 = .ok (.iload_n 1, 1) := dget zdX9_lies_0 8 rfl
theorem dX9_lies_15 : decode cX9_lies 15 = .ok (.iaload, 1) := dget zdX9_lies_0 9 rfl
theorem dX9_lies_16 : decode cX9_lies 16 = .ok (.istore_n 2, 1) := dget zdX9_lies_0 10 rfl
theorem dX9_lies_17 : decode cX9_lies 17 = .ok (.iconst 0, 1) := dget zdX9_lies_0 11 rfl
theorem dX9_lies_18 : decode cX9_lies 18 = .ok (.istore_n 3, 1) := dget zdX9_lies_0 12 rfl
theorem dX9_lies_19 : decode cX9_lies 19 = .ok (.iconst 0, 1) := dget zdX9_lies_0 13 rfl
theorem dX9_lies_20 : decode cX9_lies 20 = .ok (.istore 4, 2) := dget zdX9_lies_0 14 rfl
theorem dX9_lies_22 : decode cX9_lies 22 = .ok (.iload 4, 2) := dget zdX9_lies_0 15 rfl
theorem dX9_lies_24 : decode cX9_lies 24 = .ok (.iconst 3, 1) := dget zdX9_lies_0 16 rfl
theorem dX9_lies_25 : decode cX9_lies 25 = .ok (.if_icmp .gt 35, 3) := dget zdX9_lies_0 17 rfl
theorem dX9_lies_28 : decode cX9_lies 28 = .ok (.aload_n 0, 1) := dget zdX9_lies_0 18 rfl
theorem dX9_lies_29 : decode cX9_lies 29 = .ok (.getfield 7, 3) := dget zdX9_lies_0 19 rfl
theorem dX9_lies_32 : decode cX9_lies 32 = .ok (.iload_n 1, 1) := dget zdX9_lies_0 20 rfl
theorem dX9_lies_33 : decode cX9_lies 33 = .ok (.iload 4, 2) := dget zdX9_lies_0 21 rfl
theorem dX9_lies_35 : decode cX9_lies 35 = .ok (.iastore, 1) := dget zdX9_lies_0 22 rfl
theorem dX9_lies_36 : decode cX9_lies 36 = .ok (.iload_n 3, 1) := dget zdX9_lies_0 23 rfl
theorem dX9_lies_37 : decode cX9_lies 37 = .ok (.aload_n 0, 1) := dget zdX9_lies_0 24 rfl
theorem dX9_lies_38 : decode cX9_lies 38 = .ok (.invokevirtual 191, 3) := dget zdX9_lies_0 25 rfl
theorem dX9_lies_41 : decode cX9_lies 41 = .ok (.ifCond .eq 10, 3) := dget zdX9_lies_0 26 rfl
theorem dX9_lies_44 : decode cX9_lies 44 = .ok (.iconst 1, 1) := dget zdX9_lies_0 27 rfl
theorem dX9_lies_45 : decode cX9_lies 45 = .ok (.iload 4, 2) := dget zdX9_lies_0 28 rfl
theorem dX9_lies_47 : decode cX9_lies 47 = .ok (.ishl, 1) := dget zdX9_lies_0 29 rfl
theorem dX9_lies_48 : decode cX9_lies 48 = .ok (.goto 4, 3) := dget zdX9_lies_0 30 rfl
theorem dX9_lies_51 : decode cX9_lies 51 = .ok (.iconst 0, 1) := dget zdX9_lies_0 31 rfl
theorem dX9_lies_52 : decode cX9_lies 52 = .ok (.ior, 1) := dget zdX9_lies_0 32 rfl
theorem dX9_lies_53 : decode cX9_lies 53 = .ok (.istore_n 3, 1) := dget zdX9_lies_0 33 rfl
theorem dX9_lies_54 : decode cX9_lies 54 = .ok (.iinc 4 1, 3) := dget zdX9_lies_0 34 rfl
theorem dX9_lies_57 : decode cX9_lies 57 = .ok (.goto (-35), 3) := dget zdX9_lies_0 35 rfl
theorem dX9_lies_60 : decode cX9_lies 60 = .ok (.aload_n 0, 1) := dget zdX9_lies_0 36 rfl
theorem dX9_lies_61 : decode cX9_lies 61 = .ok (.getfield 7, 3) := dget zdX9_lies_0 37 rfl
theorem dX9_lies_64 : decode cX9_lies 64 = .ok (.iload_n 1, 1) := dget zdX9_lies_0 38 rfl
theorem dX9_lies_65 : decode cX9_lies 65 = .ok (.iload_n 2, 1) := dget zdX9_lies_0 39 rfl
theorem dX9_lies_66 : decode cX9_lies 66 = .ok (.iastore, 1) := dget zdX9_lies_0 40 rfl
theorem dX9_lies_67 : decode cX9_lies 67 = .ok (.iload_n 3, 1) := dget zdX9_lies_0 41 rfl
theorem dX9_lies_68 : decode cX9_lies 68 = .ok (.ireturn, 1) := dget zdX9_lies_0 42 rfl
theorem zdX9_heavy_0 : dchk cX9_heavy [(0, .aload_n 0, 1), (1, .iload_n 1, 1), (2, .invokevirtual 71, 3), (5, .ifCond .eq 20, 3), (8, .aload_n 0, 1), (9, .iload_n 2, 1), (10, .invokevirtual 188, 3), (13, .ifCond .eq 12, 3), (16, .iload_n 3, 1), (17, .iconst 0, 1), (18, .iconst 1, 1), (19, .invokestatic 67, 3), (22, .ifCond .ne 5, 3), (25, .iconst (-1), 1), (26, .ireturn, 1), (27, .iconst 0, 1), (28, .istore 4, 2), (30, .bipush (-4), 2), (32, .istore 5, 2), (34, .bipush 20, 2), (36, .istore 6, 2), (38, .iload 6, 2), (40, .iconst 1, 1), (41, .if_icmp .lt 57, 3), (44, .aload_n 0, 1), (45, .iload_n 1, 1), (46, .iload 6, 2), (48, .iconst 0, 1), (49, .invokevirtual 137, 3), (52, .iload_n 2, 1), (53, .if_icmp .ne 7, 3), (56, .iconst 1, 1), (57, .goto 4, 3), (60, .iconst 0, 1), (61, .istore 7, 2), (63, .iload 4, 2), (65, .iload 7, 2), (67, .ifCond .eq 7, 3), (70, .iconst 1, 1), (71, .goto 4, 3), (74, .iconst 0, 1), (75, .iadd, 1), (76, .istore 4, 2), (78, .iload 7, 2), (80, .ifCond .eq 8, 3), (83, .iload 6, 2), (85, .goto 5, 3), (88, .iload 5, 2), (90, .istore 5, 2), (92, .iinc 6 (-1), 3), (95, .goto (-57), 3), (98, .iload_n 3, 1), (99, .ifCond .ne 8, 3), (102, .iload 4, 2), (104, .goto 5, 3), (107, .iload 5, 2), (109, .ireturn, 1)] = true := by decide +kernel
theorem dX9_heavy_0 : decode cX9_heavy 0 = .ok (.aload_n 0, 1) := dget zdX9_heavy_0 0 rfl
theorem dX9_heavy_1 : decode cX9_heavy 1 = .ok (.iload_n 1, 1) := dget zdX9_heavy_0 1 rfl
theorem dX9_heavy_2 : decode cX9_heavy 2 = .ok (.invokevirtual 71, 3) := dget zdX9_heavy_0 2 rfl
theorem dX9_heavy_5 : decode cX9_heavy 5 = .ok (.ifCond .eq 20, 3) := dget zdX9_heavy_0 3 rfl
theorem dX9_heavy_8 : decode cX9_heavy 8 = .ok (.aload_n 0, 1) := dget zdX9_heavy_0 4 rfl
theorem dX9_heavy_9 : decode cX9_heavy 9 = .ok (.iload_n 2, 1) := dget zdX9_heavy_0 5 rfl
theorem dX9_heavy_10 : decode cX9_heavy 10 = .ok (.invokevirtual 188, 3) := dget zdX9_heavy_0 6 rfl
theorem dX9_heavy_13 : decode cX9_heavy 13 = .ok (.ifCond .eq 12, 3) := dget zdX9_heavy_0 7 rfl
theorem dX9_heavy_16 : decode cX9_heavy 16 = .ok (.iload_n 3, 1) := dget zdX9_heavy_0 8 rfl
theorem dX9_heavy_17 : decode cX9_heavy 17 = .ok (.iconst 0, 1) := dget zdX9_heavy_0 9 rfl
theorem dX9_heavy_18 : decode cX9_heavy 18 = .ok (.iconst 1, 1) := dget zdX9_heavy_0 10 rfl
theorem dX9_heavy_19 : decode cX9_heavy 19 = .ok (.invokestatic 67, 3) := dget zdX9_heavy_0 11 rfl
theorem dX9_heavy_22 : decode cX9_heavy 22 = .ok (.ifCond .ne 5, 3) := dget zdX9_heavy_0 12 rfl
theorem dX9_heavy_25 : decode cX9_heavy 25 = .ok (.iconst (-1), 1) := dget zdX9_heavy_0 13 rfl
theorem dX9_heavy_26 : decode cX9_heavy 26 = .ok (.ireturn, 1) := dget zdX9_heavy_0 14 rfl
theorem dX9_heavy_27 : decode cX9_heavy 27 = .ok (.iconst 0, 1) := dget zdX9_heavy_0 15 rfl
theorem dX9_heavy_28 : decode cX9_heavy 28 = .ok (.istore 4, 2) := dget zdX9_heavy_0 16 rfl
theorem dX9_heavy_30 : decode cX9_heavy 30 = .ok (.bipush (-4), 2) := dget zdX9_heavy_0 17 rfl
theorem dX9_heavy_32 : decode cX9_heavy 32 = .ok (.istore 5, 2) := dget zdX9_heavy_0 18 rfl
theorem dX9_heavy_34 : decode cX9_heavy 34 = .ok (.bipush 20, 2) := dget zdX9_heavy_0 19 rfl
theorem dX9_heavy_36 : decode cX9_heavy 36 = .ok (.istore 6, 2) := dget zdX9_heavy_0 20 rfl
theorem dX9_heavy_38 : decode cX9_heavy 38 = .ok (.iload 6, 2) := dget zdX9_heavy_0 21 rfl
theorem dX9_heavy_40 : decode cX9_heavy 40 = .ok (.iconst 1, 1) := dget zdX9_heavy_0 22 rfl
theorem dX9_heavy_41 : decode cX9_heavy 41 = .ok (.if_icmp .lt 57, 3) := dget zdX9_heavy_0 23 rfl
theorem dX9_heavy_44 : decode cX9_heavy 44 = .ok (.aload_n 0, 1) := dget zdX9_heavy_0 24 rfl
theorem dX9_heavy_45 : decode cX9_heavy 45 = .ok (.iload_n 1, 1) := dget zdX9_heavy_0 25 rfl
theorem dX9_heavy_46 : decode cX9_heavy 46 = .ok (.iload 6, 2) := dget zdX9_heavy_0 26 rfl
theorem dX9_heavy_48 : decode cX9_heavy 48 = .ok (.iconst 0, 1) := dget zdX9_heavy_0 27 rfl
theorem dX9_heavy_49 : decode cX9_heavy 49 = .ok (.invokevirtual 137, 3) := dget zdX9_heavy_0 28 rfl
theorem dX9_heavy_52 : decode cX9_heavy 52 = .ok (.iload_n 2, 1) := dget zdX9_heavy_0 29 rfl
theorem dX9_heavy_53 : decode cX9_heavy 53 = .ok (.if_icmp .ne 7, 3) := dget zdX9_heavy_0 30 rfl
theorem dX9_heavy_56 : decode cX9_heavy 56 = .ok (.iconst 1, 1) := dget zdX9_heavy_0 31 rfl
theorem dX9_heavy_57 : decode cX9_heavy 57 = .ok (.goto 4, 3) := dget zdX9_heavy_0 32 rfl
theorem dX9_heavy_60 : decode cX9_heavy 60 = .ok (.iconst 0, 1) := dget zdX9_heavy_0 33 rfl
theorem dX9_heavy_61 : decode cX9_heavy 61 = .ok (.istore 7, 2) := dget zdX9_heavy_0 34 rfl
theorem dX9_heavy_63 : decode cX9_heavy 63 = .ok (.iload 4, 2) := dget zdX9_heavy_0 35 rfl
theorem dX9_heavy_65 : decode cX9_heavy 65 = .ok (.iload 7, 2) := dget zdX9_heavy_0 36 rfl
theorem dX9_heavy_67 : decode cX9_heavy 67 = .ok (.ifCond .eq 7, 3) := dget zdX9_heavy_0 37 rfl
theorem dX9_heavy_70 : decode cX9_heavy 70 = .ok (.iconst 1, 1) := dget zdX9_heavy_0 38 rfl
theorem dX9_heavy_71 : decode cX9_heavy 71 = .ok (.goto 4, 3) := dget zdX9_heavy_0 39 rfl
theorem dX9_heavy_74 : decode cX9_heavy 74 = .ok (.iconst 0, 1) := dget zdX9_heavy_0 40 rfl
theorem dX9_heavy_75 : decode cX9_heavy 75 = .ok (.iadd, 1) := dget zdX9_heavy_0 41 rfl
theorem dX9_heavy_76 : decode cX9_heavy 76 = .ok (.istore 4, 2) := dget zdX9_heavy_0 42 rfl
theorem dX9_heavy_78 : decode cX9_heavy 78 = .ok (.iload 7, 2) := dget zdX9_heavy_0 43 rfl
theorem dX9_heavy_80 : decode cX9_heavy 80 = .ok (.ifCond .eq 8, 3) := dget zdX9_heavy_0 44 rfl
theorem dX9_heavy_83 : decode cX9_heavy 83 = .ok (.iload 6, 2) := dget zdX9_heavy_0 45 rfl
theorem dX9_heavy_85 : decode cX9_heavy 85 = .ok (.goto 5, 3) := dget zdX9_heavy_0 46 rfl
theorem dX9_heavy_88 : decode cX9_heavy 88 = .ok (.iload 5, 2) := dget zdX9_heavy_0 47 rfl
theorem dX9_heavy_90 : decode cX9_heavy 90 = .ok (.istore 5, 2) := dget zdX9_heavy_0 48 rfl
theorem dX9_heavy_92 : decode cX9_heavy 92 = .ok (.iinc 6 (-1), 3) := dget zdX9_heavy_0 49 rfl
theorem dX9_heavy_95 : decode cX9_heavy 95 = .ok (.goto (-57), 3) := dget zdX9_heavy_0 50 rfl
theorem dX9_heavy_98 : decode cX9_heavy 98 = .ok (.iload_n 3, 1) := dget zdX9_heavy_0 51 rfl
theorem dX9_heavy_99 : decode cX9_heavy 99 = .ok (.ifCond .ne 8, 3) := dget zdX9_heavy_0 52 rfl
theorem dX9_heavy_102 : decode cX9_heavy 102 = .ok (.iload 4, 2) := dget zdX9_heavy_0 53 rfl
theorem dX9_heavy_104 : decode cX9_heavy 104 = .ok (.goto 5, 3) := dget zdX9_heavy_0 54 rfl
theorem dX9_heavy_107 : decode cX9_heavy 107 = .ok (.iload 5, 2) := dget zdX9_heavy_0 55 rfl
theorem dX9_heavy_109 : decode cX9_heavy 109 = .ok (.ireturn, 1) := dget zdX9_heavy_0 56 rfl
theorem zdX9_common_0 : dchk cX9_common [(0, .lload_n 0, 1), (1, .lstore 4, 2), (3, .lload_n 2, 1), (4, .lstore 6, 2), (6, .lload 6, 2), (8, .lconst 0, 1), (9, .lcmp, 1), (10, .ifCond .eq 21, 3), (13, .lload 4, 2), (15, .lload 6, 2), (17, .lrem, 1), (18, .lstore 8, 2), (20, .lload 6, 2), (22, .lstore 4, 2), (24, .lload 8, 2), (26, .lstore 6, 2), (28, .goto (-22), 3), (31, .lload 4, 2), (33, .lreturn, 1)] = true := by decide +kernel
theorem dX9_common_0 : decode cX9_common 0 = .ok (.lload_n 0, 1) := dget zdX9_common_0 0 rfl
theorem dX9_common_1 : decode cX9_common 1 = .ok (.lstore 4, 2) := dget zdX9_common_0 1 rfl
theorem dX9_common_3 : decode cX9_common 3 = .ok (.lload_n 2, 1) := dget zdX9_common_0 2 rfl
theorem dX9_common_4 : decode cX9_common 4 = .ok (.lstore 6, 2) := dget zdX9_common_0 3 rfl
theorem dX9_common_6 : decode cX9_common 6 = .ok (.lload 6, 2) := dget zdX9_common_0 4 rfl
theorem dX9_common_8 : decode cX9_common 8 = .ok (.lconst 0, 1) := dget zdX9_common_0 5 rfl
theorem dX9_common_9 : decode cX9_common 9 = .ok (.lcmp, 1) := dget zdX9_common_0 6 rfl
theorem dX9_common_10 : decode cX9_common 10 = .ok (.ifCond .eq 21, 3) := dget zdX9_common_0 7 rfl
theorem dX9_common_13 : decode cX9_common 13 = .ok (.lload 4, 2) := dget zdX9_common_0 8 rfl
theorem dX9_common_15 : decode cX9_common 15 = .ok (.lload 6, 2) := dget zdX9_common_0 9 rfl
theorem dX9_common_17 : decode cX9_common 17 = .ok (.lrem, 1) := dget zdX9_common_0 10 rfl
theorem dX9_common_18 : decode cX9_common 18 = .ok (.lstore 8, 2) := dget zdX9_common_0 11 rfl
theorem dX9_common_20 : decode cX9_common 20 = .ok (.lload 6, 2) := dget zdX9_common_0 12 rfl
theorem dX9_common_22 : decode cX9_common 22 = .ok (.lstore 4, 2) := dget zdX9_common_0 13 rfl
theorem dX9_common_24 : decode cX9_common 24 = .ok (.lload 8, 2) := dget zdX9_common_0 14 rfl
theorem dX9_common_26 : decode cX9_common 26 = .ok (.lstore 6, 2) := dget zdX9_common_0 15 rfl
theorem dX9_common_28 : decode cX9_common 28 = .ok (.goto (-22), 3) := dget zdX9_common_0 16 rfl
theorem dX9_common_31 : decode cX9_common 31 = .ok (.lload 4, 2) := dget zdX9_common_0 17 rfl
theorem dX9_common_33 : decode cX9_common 33 = .ok (.lreturn, 1) := dget zdX9_common_0 18 rfl
theorem zdX9_endBy_0 : dchk cX9_endBy [(0, .iload_n 2, 1), (1, .istore 4, 2), (3, .iconst 0, 1), (4, .istore 5, 2), (6, .iload 5, 2), (8, .aload_n 0, 1), (9, .getfield 60, 3), (12, .if_icmp .ge 58, 3), (15, .iload_n 3, 1), (16, .iload 5, 2), (18, .invokestatic 194, 3), (21, .ifCond .eq 7, 3), (24, .iconst 1, 1), (25, .goto 17, 3), (28, .aload_n 0, 1), (29, .getfield 7, 3), (32, .aload_n 0, 1), (33, .getfield 52, 3), (36, .iload 5, 2), (38, .imul, 1), (39, .iload_n 1, 1), (40, .iadd, 1), (41, .iaload, 1), (42, .iload 4, 2), (44, .invokestatic 127, 3), (47, .istore 4, 2), (49, .iload 4, 2), (51, .ifCond .ne 13, 3), (54, .aload_n 0, 1), (55, .getfield 52, 3), (58, .iload 5, 2), (60, .imul, 1), (61, .iload_n 1, 1), (62, .iadd, 1), (63, .ireturn, 1), (64, .iinc 5 1, 3), (67, .goto (-61), 3), (70, .bipush 99, 2), (72, .ireturn, 1)] = true := by decide +kernel
theorem dX9_endBy_0 : decode cX9_endBy 0 = .ok (.iload_n 2, 1) := dget zdX9_endBy_0 0 rfl
theorem dX9_endBy_1 : decode cX9_endBy 1 = .ok (.istore 4, 2) := dget zdX9_endBy_0 1 rfl
theorem dX9_endBy_3 : decode cX9_endBy 3 = .ok (.iconst 0, 1) := dget zdX9_endBy_0 2 rfl
theorem dX9_endBy_4 : decode cX9_endBy 4 = .ok (.istore 5, 2) := dget zdX9_endBy_0 3 rfl
theorem dX9_endBy_6 : decode cX9_endBy 6 = .ok (.iload 5, 2) := dget zdX9_endBy_0 4 rfl
theorem dX9_endBy_8 : decode cX9_endBy 8 = .ok (.aload_n 0, 1) := dget zdX9_endBy_0 5 rfl
theorem dX9_endBy_9 : decode cX9_endBy 9 = .ok (.getfield 60, 3) := dget zdX9_endBy_0 6 rfl
theorem dX9_endBy_12 : decode cX9_endBy 12 = .ok (.if_icmp .ge 58, 3) := dget zdX9_endBy_0 7 rfl
theorem dX9_endBy_15 : decode cX9_endBy 15 = .ok (.iload_n 3, 1) := dget zdX9_endBy_0 8 rfl
theorem dX9_endBy_16 : decode cX9_endBy 16 = .ok (.iload 5, 2) := dget zdX9_endBy_0 9 rfl
theorem dX9_endBy_18 : decode cX9_endBy 18 = .ok (.invokestatic 194, 3) := dget zdX9_endBy_0 10 rfl
theorem dX9_endBy_21 : decode cX9_endBy 21 = .ok (.ifCond .eq 7, 3) := dget zdX9_endBy_0 11 rfl
theorem dX9_endBy_24 : decode cX9_endBy 24 = .ok (.iconst 1, 1) := dget zdX9_endBy_0 12 rfl
theorem dX9_endBy_25 : decode cX9_endBy 25 = .ok (.goto 17, 3) := dget zdX9_endBy_0 13 rfl
theorem dX9_endBy_28 : decode cX9_endBy 28 = .ok (.aload_n 0, 1) := dget zdX9_endBy_0 14 rfl
theorem dX9_endBy_29 : decode cX9_endBy 29 = .ok (.getfield 7, 3) := dget zdX9_endBy_0 15 rfl
theorem dX9_endBy_32 : decode cX9_endBy 32 = .ok (.aload_n 0, 1) := dget zdX9_endBy_0 16 rfl
theorem dX9_endBy_33 : decode cX9_endBy 33 = .ok (.getfield 52, 3) := dget zdX9_endBy_0 17 rfl
theorem dX9_endBy_36 : decode cX9_endBy 36 = .ok (.iload 5, 2) := dget zdX9_endBy_0 18 rfl
theorem dX9_endBy_38 : decode cX9_endBy 38 = .ok (.imul, 1) := dget zdX9_endBy_0 19 rfl
theorem dX9_endBy_39 : decode cX9_endBy 39 = .ok (.iload_n 1, 1) := dget zdX9_endBy_0 20 rfl
theorem dX9_endBy_40 : decode cX9_endBy 40 = .ok (.iadd, 1) := dget zdX9_endBy_0 21 rfl
theorem dX9_endBy_41 : decode cX9_endBy 41 = .ok (.iaload, 1) := dget zdX9_endBy_0 22 rfl
theorem dX9_endBy_42 : decode cX9_endBy 42 = .ok (.iload 4, 2) := dget zdX9_endBy_0 23 rfl
theorem dX9_endBy_44 : decode cX9_endBy 44 = .ok (.invokestatic 127, 3) := dget zdX9_endBy_0 24 rfl
theorem dX9_endBy_47 : decode cX9_endBy 47 = .ok (.istore 4, 2) := dget zdX9_endBy_0 25 rfl
theorem dX9_endBy_49 : decode cX9_endBy 49 = .ok (.iload 4, 2) := dget zdX9_endBy_0 26 rfl
theorem dX9_endBy_51 : decode cX9_endBy 51 = .ok (.ifCond .ne 13, 3) := dget zdX9_endBy_0 27 rfl
theorem dX9_endBy_54 : decode cX9_endBy 54 = .ok (.aload_n 0, 1) := dget zdX9_endBy_0 28 rfl
theorem dX9_endBy_55 : decode cX9_endBy 55 = .ok (.getfield 52, 3) := dget zdX9_endBy_0 29 rfl
theorem dX9_endBy_58 : decode cX9_endBy 58 = .ok (.iload 5, 2) := dget zdX9_endBy_0 30 rfl
theorem dX9_endBy_60 : decode cX9_endBy 60 = .ok (.imul, 1) := dget zdX9_endBy_0 31 rfl
theorem dX9_endBy_61 : decode cX9_endBy 61 = .ok (.iload_n 1, 1) := dget zdX9_endBy_0 32 rfl
theorem dX9_endBy_62 : decode cX9_endBy 62 = .ok (.iadd, 1) := dget zdX9_endBy_0 33 rfl
theorem dX9_endBy_63 : decode cX9_endBy 63 = .ok (.ireturn, 1) := dget zdX9_endBy_0 34 rfl
theorem dX9_endBy_64 : decode cX9_endBy 64 = .ok (.iinc 5 1, 3) := dget zdX9_endBy_0 35 rfl
theorem dX9_endBy_67 : decode cX9_endBy 67 = .ok (.goto (-61), 3) := dget zdX9_endBy_0 36 rfl
theorem dX9_endBy_70 : decode cX9_endBy 70 = .ok (.bipush 99, 2) := dget zdX9_endBy_0 37 rfl
theorem dX9_endBy_72 : decode cX9_endBy 72 = .ok (.ireturn, 1) := dget zdX9_endBy_0 38 rfl
theorem zdX9_likely_0 : dchk cX9_likely [(0, .aload_n 0, 1), (1, .iload_n 1, 1), (2, .iload_n 2, 1), (3, .iconst 0, 1), (4, .invokevirtual 134, 3), (7, .ifCond .eq 32, 3), (10, .aload_n 0, 1), (11, .iload_n 3, 1), (12, .invokevirtual 188, 3), (15, .ifCond .eq 24, 3), (18, .iload 4, 2), (20, .iconst 0, 1), (21, .bipush 10, 2), (23, .invokestatic 67, 3), (26, .ifCond .eq 13, 3), (29, .iload 5, 2), (31, .iconst 0, 1), (32, .iconst 1, 1), (33, .invokestatic 67, 3), (36, .ifCond .ne 5, 3), (39, .iconst (-1), 1), (40, .ireturn, 1), (41, .lconst 0, 1), (42, .lstore 6, 2), (44, .lconst 1, 1), (45, .lstore 8, 2), (47, .iconst 0, 1), (48, .istore 10, 2), (50, .iload 10, 2), (52, .aload_n 0, 1), (53, .getfield 60, 3), (56, .if_icmp .ge 17, 3), (59, .lload 8, 2), (61, .ldc2_w 197, 3), (64, .lmul, 1), (65, .lstore 8, 2), (67, .iinc 10 1, 3), (70, .goto (-20), 3), (73, .iconst 0, 1), (74, .istore 10, 2), (76, .iload 10, 2), (78, .iconst 1, 1), (79, .aload_n 0, 1), (80, .getfield 60, 3), (83, .ishl, 1), (84, .if_icmp .ge 80, 3), (87, .lconst 1, 1), (88, .lstore 11, 2), (90, .iconst 0, 1), (91, .istore 13, 2), (93, .iload 13, 2), (95, .aload_n 0, 1), (96, .getfield 60, 3), (99, .if_icmp .ge 36, 3), (102, .lload 11, 2), (104, .iload 10, 2), (106, .iload 13, 2), (108, .invokestatic 194, 3), (111, .ifCond .eq 9, 3), (114, .iload 4, 2), (116, .i2l, 1), (117, .goto 9, 3), (120, .bipush 10, 2), (122, .iload 4, 2), (124, .isub, 1), (125, .i2l, 1), (126, .lmul, 1), (127, .lstore 11, 2), (129, .iinc 13 1, 3), (132, .goto (-39), 3), (135, .lload 6, 2), (137, .aload_n 0, 1), (138, .iload_n 1, 1), (139, .iload_n 2, 1), (140, .iload 10, 2), (142, .invokevirtual 199, 3), (145, .iload_n 3, 1), (146, .if_icmp .ne 8, 3), (149, .lload 11, 2), (151, .goto 4, 3), (154, .lconst 0, 1), (155, .ladd, 1), (156, .lstore 6, 2), (158, .iinc 10 1, 3), (161, .goto (-85), 3), (164, .lload 6, 2), (166, .lload 8, 2), (168, .invokestatic 202, 3), (171, .lstore 10, 2), (173, .iload 5, 2), (175, .ifCond .ne 11, 3), (178, .lload 6, 2), (180, .lload 10, 2), (182, .ldiv, 1), (183, .goto 8, 3), (186, .lload 8, 2), (188, .lload 10, 2), (190, .ldiv, 1), (191, .l2i, 1), (192, .ireturn, 1)] = true := by decide +kernel
theorem dX9_likely_0 : decode cX9_likely 0 = .ok (.aload_n 0, 1) := dget zdX9_likely_0 0 rfl
theorem dX9_likely_1 : decode cX9_likely 1 = .ok (.iload_n 1, 1) := dget zdX9_likely_0 1 rfl
theorem dX9_likely_2 : decode cX9_likely 2 = .ok (.iload_n 2, 1) := dget zdX9_likely_0 2 rfl
theorem dX9_likely_3 : decode cX9_likely 3 = .ok (.iconst 0, 1) := dget zdX9_likely_0 3 rfl
theorem dX9_likely_4 : decode cX9_likely 4 = .ok (.invokevirtual 134, 3) := dget zdX9_likely_0 4 rfl
theorem dX9_likely_7 : decode cX9_likely 7 = .ok (.ifCond .eq 32, 3) := dget zdX9_likely_0 5 rfl
theorem dX9_likely_10 : decode cX9_likely 10 = .ok (.aload_n 0, 1) := dget zdX9_likely_0 6 rfl
theorem dX9_likely_11 : decode cX9_likely 11 = .ok (.iload_n 3, 1) := dget zdX9_likely_0 7 rfl
theorem dX9_likely_12 : decode cX9_likely 12 = .ok (.invokevirtual 188, 3) := dget zdX9_likely_0 8 rfl
theorem dX9_likely_15 : decode cX9_likely 15 = .ok (.ifCond .eq 24, 3) := dget zdX9_likely_0 9 rfl
theorem dX9_likely_18 : decode cX9_likely 18 = .ok (.iload 4, 2) := dget zdX9_likely_0 10 rfl
theorem dX9_likely_20 : decode cX9_likely 20 = .ok (.iconst 0, 1) := dget zdX9_likely_0 11 rfl
theorem dX9_likely_21 : decode cX9_likely 21 = .ok (.bipush 10, 2) := dget zdX9_likely_0 12 rfl
theorem dX9_likely_23 : decode cX9_likely 23 = .ok (.invokestatic 67, 3) := dget zdX9_likely_0 13 rfl
theorem dX9_likely_26 : decode cX9_likely 26 = .ok (.ifCond .eq 13, 3) := dget zdX9_likely_0 14 rfl
theorem dX9_likely_29 : decode cX9_likely 29 = .ok (.iload 5, 2) := dget zdX9_likely_0 15 rfl
theorem dX9_likely_31 : decode cX9_likely 31 = .ok (.iconst 0, 1) := dget zdX9_likely_0 16 rfl
theorem dX9_likely_32 : decode cX9_likely 32 = .ok (.iconst 1, 1) := dget zdX9_likely_0 17 rfl
theorem dX9_likely_33 : decode cX9_likely 33 = .ok (.invokestatic 67, 3) := dget zdX9_likely_0 18 rfl
theorem dX9_likely_36 : decode cX9_likely 36 = .ok (.ifCond .ne 5, 3) := dget zdX9_likely_0 19 rfl
theorem dX9_likely_39 : decode cX9_likely 39 = .ok (.iconst (-1), 1) := dget zdX9_likely_0 20 rfl
theorem dX9_likely_40 : decode cX9_likely 40 = .ok (.ireturn, 1) := dget zdX9_likely_0 21 rfl
theorem dX9_likely_41 : decode cX9_likely 41 = .ok (.lconst 0, 1) := dget zdX9_likely_0 22 rfl
theorem dX9_likely_42 : decode cX9_likely 42 = .ok (.lstore 6, 2) := dget zdX9_likely_0 23 rfl
theorem dX9_likely_44 : decode cX9_likely 44 = .ok (.lconst 1, 1) := dget zdX9_likely_0 24 rfl
theorem dX9_likely_45 : decode cX9_likely 45 = .ok (.lstore 8, 2) := dget zdX9_likely_0 25 rfl
theorem dX9_likely_47 : decode cX9_likely 47 = .ok (.iconst 0, 1) := dget zdX9_likely_0 26 rfl
theorem dX9_likely_48 : decode cX9_likely 48 = .ok (.istore 10, 2) := dget zdX9_likely_0 27 rfl
theorem dX9_likely_50 : decode cX9_likely 50 = .ok (.iload 10, 2) := dget zdX9_likely_0 28 rfl
theorem dX9_likely_52 : decode cX9_likely 52 = .ok (.aload_n 0, 1) := dget zdX9_likely_0 29 rfl
theorem dX9_likely_53 : decode cX9_likely 53 = .ok (.getfield 60, 3) := dget zdX9_likely_0 30 rfl
theorem dX9_likely_56 : decode cX9_likely 56 = .ok (.if_icmp .ge 17, 3) := dget zdX9_likely_0 31 rfl
theorem dX9_likely_59 : decode cX9_likely 59 = .ok (.lload 8, 2) := dget zdX9_likely_0 32 rfl
theorem dX9_likely_61 : decode cX9_likely 61 = .ok (.ldc2_w 197, 3) := dget zdX9_likely_0 33 rfl
theorem dX9_likely_64 : decode cX9_likely 64 = .ok (.lmul, 1) := dget zdX9_likely_0 34 rfl
theorem dX9_likely_65 : decode cX9_likely 65 = .ok (.lstore 8, 2) := dget zdX9_likely_0 35 rfl
theorem dX9_likely_67 : decode cX9_likely 67 = .ok (.iinc 10 1, 3) := dget zdX9_likely_0 36 rfl
theorem dX9_likely_70 : decode cX9_likely 70 = .ok (.goto (-20), 3) := dget zdX9_likely_0 37 rfl
theorem dX9_likely_73 : decode cX9_likely 73 = .ok (.iconst 0, 1) := dget zdX9_likely_0 38 rfl
theorem dX9_likely_74 : decode cX9_likely 74 = .ok (.istore 10, 2) := dget zdX9_likely_0 39 rfl
theorem dX9_likely_76 : decode cX9_likely 76 = .ok (.iload 10, 2) := dget zdX9_likely_0 40 rfl
theorem dX9_likely_78 : decode cX9_likely 78 = .ok (.iconst 1, 1) := dget zdX9_likely_0 41 rfl
theorem dX9_likely_79 : decode cX9_likely 79 = .ok (.aload_n 0, 1) := dget zdX9_likely_0 42 rfl
theorem dX9_likely_80 : decode cX9_likely 80 = .ok (.getfield 60, 3) := dget zdX9_likely_0 43 rfl
theorem dX9_likely_83 : decode cX9_likely 83 = .ok (.ishl, 1) := dget zdX9_likely_0 44 rfl
theorem dX9_likely_84 : decode cX9_likely 84 = .ok (.if_icmp .ge 80, 3) := dget zdX9_likely_0 45 rfl
theorem dX9_likely_87 : decode cX9_likely 87 = .ok (.lconst 1, 1) := dget zdX9_likely_0 46 rfl
theorem dX9_likely_88 : decode cX9_likely 88 = .ok (.lstore 11, 2) := dget zdX9_likely_0 47 rfl
theorem dX9_likely_90 : decode cX9_likely 90 = .ok (.iconst 0, 1) := dget zdX9_likely_0 48 rfl
theorem dX9_likely_91 : decode cX9_likely 91 = .ok (.istore 13, 2) := dget zdX9_likely_0 49 rfl
theorem dX9_likely_93 : decode cX9_likely 93 = .ok (.iload 13, 2) := dget zdX9_likely_0 50 rfl
theorem dX9_likely_95 : decode cX9_likely 95 = .ok (.aload_n 0, 1) := dget zdX9_likely_0 51 rfl
theorem dX9_likely_96 : decode cX9_likely 96 = .ok (.getfield 60, 3) := dget zdX9_likely_0 52 rfl
theorem dX9_likely_99 : decode cX9_likely 99 = .ok (.if_icmp .ge 36, 3) := dget zdX9_likely_0 53 rfl
theorem dX9_likely_102 : decode cX9_likely 102 = .ok (.lload 11, 2) := dget zdX9_likely_0 54 rfl
theorem dX9_likely_104 : decode cX9_likely 104 = .ok (.iload 10, 2) := dget zdX9_likely_0 55 rfl
theorem dX9_likely_106 : decode cX9_likely 106 = .ok (.iload 13, 2) := dget zdX9_likely_0 56 rfl
theorem dX9_likely_108 : decode cX9_likely 108 = .ok (.invokestatic 194, 3) := dget zdX9_likely_0 57 rfl
theorem dX9_likely_111 : decode cX9_likely 111 = .ok (.ifCond .eq 9, 3) := dget zdX9_likely_0 58 rfl
theorem dX9_likely_114 : decode cX9_likely 114 = .ok (.iload 4, 2) := dget zdX9_likely_0 59 rfl
theorem dX9_likely_116 : decode cX9_likely 116 = .ok (.i2l, 1) := dget zdX9_likely_0 60 rfl
theorem dX9_likely_117 : decode cX9_likely 117 = .ok (.goto 9, 3) := dget zdX9_likely_0 61 rfl
theorem dX9_likely_120 : decode cX9_likely 120 = .ok (.bipush 10, 2) := dget zdX9_likely_0 62 rfl
theorem dX9_likely_122 : decode cX9_likely 122 = .ok (.iload 4, 2) := dget zdX9_likely_0 63 rfl
theorem dX9_likely_124 : decode cX9_likely 124 = .ok (.isub, 1) := dget zdX9_likely_0 64 rfl
theorem dX9_likely_125 : decode cX9_likely 125 = .ok (.i2l, 1) := dget zdX9_likely_0 65 rfl
theorem dX9_likely_126 : decode cX9_likely 126 = .ok (.lmul, 1) := dget zdX9_likely_0 66 rfl
theorem dX9_likely_127 : decode cX9_likely 127 = .ok (.lstore 11, 2) := dget zdX9_likely_0 67 rfl
theorem dX9_likely_129 : decode cX9_likely 129 = .ok (.iinc 13 1, 3) := dget zdX9_likely_0 68 rfl
theorem dX9_likely_132 : decode cX9_likely 132 = .ok (.goto (-39), 3) := dget zdX9_likely_0 69 rfl
theorem dX9_likely_135 : decode cX9_likely 135 = .ok (.lload 6, 2) := dget zdX9_likely_0 70 rfl
theorem dX9_likely_137 : decode cX9_likely 137 = .ok (.aload_n 0, 1) := dget zdX9_likely_0 71 rfl
theorem dX9_likely_138 : decode cX9_likely 138 = .ok (.iload_n 1, 1) := dget zdX9_likely_0 72 rfl
theorem dX9_likely_139 : decode cX9_likely 139 = .ok (.iload_n 2, 1) := dget zdX9_likely_0 73 rfl
theorem dX9_likely_140 : decode cX9_likely 140 = .ok (.iload 10, 2) := dget zdX9_likely_0 74 rfl
theorem dX9_likely_142 : decode cX9_likely 142 = .ok (.invokevirtual 199, 3) := dget zdX9_likely_0 75 rfl
theorem dX9_likely_145 : decode cX9_likely 145 = .ok (.iload_n 3, 1) := dget zdX9_likely_0 76 rfl
theorem dX9_likely_146 : decode cX9_likely 146 = .ok (.if_icmp .ne 8, 3) := dget zdX9_likely_0 77 rfl
theorem dX9_likely_149 : decode cX9_likely 149 = .ok (.lload 11, 2) := dget zdX9_likely_0 78 rfl
theorem dX9_likely_151 : decode cX9_likely 151 = .ok (.goto 4, 3) := dget zdX9_likely_0 79 rfl
theorem dX9_likely_154 : decode cX9_likely 154 = .ok (.lconst 0, 1) := dget zdX9_likely_0 80 rfl
theorem dX9_likely_155 : decode cX9_likely 155 = .ok (.ladd, 1) := dget zdX9_likely_0 81 rfl
theorem dX9_likely_156 : decode cX9_likely 156 = .ok (.lstore 6, 2) := dget zdX9_likely_0 82 rfl
theorem dX9_likely_158 : decode cX9_likely 158 = .ok (.iinc 10 1, 3) := dget zdX9_likely_0 83 rfl
theorem dX9_likely_161 : decode cX9_likely 161 = .ok (.goto (-85), 3) := dget zdX9_likely_0 84 rfl
theorem dX9_likely_164 : decode cX9_likely 164 = .ok (.lload 6, 2) := dget zdX9_likely_0 85 rfl
theorem dX9_likely_166 : decode cX9_likely 166 = .ok (.lload 8, 2) := dget zdX9_likely_0 86 rfl
theorem dX9_likely_168 : decode cX9_likely 168 = .ok (.invokestatic 202, 3) := dget zdX9_likely_0 87 rfl
theorem dX9_likely_171 : decode cX9_likely 171 = .ok (.lstore 10, 2) := dget zdX9_likely_0 88 rfl
theorem dX9_likely_173 : decode cX9_likely 173 = .ok (.iload 5, 2) := dget zdX9_likely_0 89 rfl
theorem dX9_likely_175 : decode cX9_likely 175 = .ok (.ifCond .ne 11, 3) := dget zdX9_likely_0 90 rfl
theorem dX9_likely_178 : decode cX9_likely 178 = .ok (.lload 6, 2) := dget zdX9_likely_0 91 rfl
theorem dX9_likely_180 : decode cX9_likely 180 = .ok (.lload 10, 2) := dget zdX9_likely_0 92 rfl
theorem dX9_likely_182 : decode cX9_likely 182 = .ok (.ldiv, 1) := dget zdX9_likely_0 93 rfl
theorem dX9_likely_183 : decode cX9_likely 183 = .ok (.goto 8, 3) := dget zdX9_likely_0 94 rfl
theorem dX9_likely_186 : decode cX9_likely 186 = .ok (.lload 8, 2) := dget zdX9_likely_0 95 rfl
theorem dX9_likely_188 : decode cX9_likely 188 = .ok (.lload 10, 2) := dget zdX9_likely_0 96 rfl
theorem dX9_likely_190 : decode cX9_likely 190 = .ok (.ldiv, 1) := dget zdX9_likely_0 97 rfl
theorem dX9_likely_191 : decode cX9_likely 191 = .ok (.l2i, 1) := dget zdX9_likely_0 98 rfl
theorem dX9_likely_192 : decode cX9_likely 192 = .ok (.ireturn, 1) := dget zdX9_likely_0 99 rfl
theorem zdX9_iceMany_0 : dchk cX9_iceMany [(0, .iconst 0, 1), (1, .istore_n 1, 1), (2, .iconst 0, 1), (3, .istore_n 2, 1), (4, .iload_n 2, 1), (5, .aload_n 0, 1), (6, .invokevirtual 63, 3), (9, .if_icmp .ge 27, 3), (12, .iload_n 1, 1), (13, .aload_n 0, 1), (14, .getfield 7, 3), (17, .iload_n 2, 1), (18, .iaload, 1), (19, .iconst 1, 1), (20, .if_icmp .ne 7, 3), (23, .iconst 1, 1), (24, .goto 4, 3), (27, .iconst 0, 1), (28, .iadd, 1), (29, .istore_n 1, 1), (30, .iinc 2 1, 3), (33, .goto (-29), 3), (36, .iload_n 1, 1), (37, .ireturn, 1)] = true := by decide +kernel
theorem dX9_iceMany_0 : decode cX9_iceMany 0 = .ok (.iconst 0, 1) := dget zdX9_iceMany_0 0 rfl
theorem dX9_iceMany_1 : decode cX9_iceMany 1 = .ok (.istore_n 1, 1) := dget zdX9_iceMany_0 1 rfl
theorem dX9_iceMany_2 : decode cX9_iceMany 2 = .ok (.iconst 0, 1) := dget zdX9_iceMany_0 2 rfl
theorem dX9_iceMany_3 : decode cX9_iceMany 3 = .ok (.istore_n 2, 1) := dget zdX9_iceMany_0 3 rfl
theorem dX9_iceMany_4 : decode cX9_iceMany 4 = .ok (.iload_n 2, 1) := dget zdX9_iceMany_0 4 rfl
theorem dX9_iceMany_5 : decode cX9_iceMany 5 = .ok (.aload_n 0, 1) := dget zdX9_iceMany_0 5 rfl
theorem dX9_iceMany_6 : decode cX9_iceMany 6 = .ok (.invokevirtual 63, 3) := dget zdX9_iceMany_0 6 rfl
theorem dX9_iceMany_9 : decode cX9_iceMany 9 = .ok (.if_icmp .ge 27, 3) := dget zdX9_iceMany_0 7 rfl
theorem dX9_iceMany_12 : decode cX9_iceMany 12 = .ok (.iload_n 1, 1) := dget zdX9_iceMany_0 8 rfl
theorem dX9_iceMany_13 : decode cX9_iceMany 13 = .ok (.aload_n 0, 1) := dget zdX9_iceMany_0 9 rfl
theorem dX9_iceMany_14 : decode cX9_iceMany 14 = .ok (.getfield 7, 3) := dget zdX9_iceMany_0 10 rfl
theorem dX9_iceMany_17 : decode cX9_iceMany 17 = .ok (.iload_n 2, 1) := dget zdX9_iceMany_0 11 rfl
theorem dX9_iceMany_18 : decode cX9_iceMany 18 = .ok (.iaload, 1) := dget zdX9_iceMany_0 12 rfl
theorem dX9_iceMany_19 : decode cX9_iceMany 19 = .ok (.iconst 1, 1) := dget zdX9_iceMany_0 13 rfl
theorem dX9_iceMany_20 : decode cX9_iceMany 20 = .ok (.if_icmp .ne 7, 3) := dget zdX9_iceMany_0 14 rfl
theorem dX9_iceMany_23 : decode cX9_iceMany 23 = .ok (.iconst 1, 1) := dget zdX9_iceMany_0 15 rfl
theorem dX9_iceMany_24 : decode cX9_iceMany 24 = .ok (.goto 4, 3) := dget zdX9_iceMany_0 16 rfl
theorem dX9_iceMany_27 : decode cX9_iceMany 27 = .ok (.iconst 0, 1) := dget zdX9_iceMany_0 17 rfl
theorem dX9_iceMany_28 : decode cX9_iceMany 28 = .ok (.iadd, 1) := dget zdX9_iceMany_0 18 rfl
theorem dX9_iceMany_29 : decode cX9_iceMany 29 = .ok (.istore_n 1, 1) := dget zdX9_iceMany_0 19 rfl
theorem dX9_iceMany_30 : decode cX9_iceMany 30 = .ok (.iinc 2 1, 3) := dget zdX9_iceMany_0 20 rfl
theorem dX9_iceMany_33 : decode cX9_iceMany 33 = .ok (.goto (-29), 3) := dget zdX9_iceMany_0 21 rfl
theorem dX9_iceMany_36 : decode cX9_iceMany 36 = .ok (.iload_n 1, 1) := dget zdX9_iceMany_0 22 rfl
theorem dX9_iceMany_37 : decode cX9_iceMany 37 = .ok (.ireturn, 1) := dget zdX9_iceMany_0 23 rfl
theorem zdX9_ownedAll_0 : dchk cX9_ownedAll [(0, .iconst 0, 1), (1, .istore_n 1, 1), (2, .iconst 0, 1), (3, .istore_n 2, 1), (4, .iload_n 2, 1), (5, .aload_n 0, 1), (6, .invokevirtual 63, 3), (9, .if_icmp .ge 28, 3), (12, .iload_n 1, 1), (13, .aload_n 0, 1), (14, .getfield 13, 3), (17, .iload_n 2, 1), (18, .iaload, 1), (19, .bipush (-4), 2), (21, .if_icmp .ne 7, 3), (24, .iconst 0, 1), (25, .goto 4, 3), (28, .iconst 1, 1), (29, .iadd, 1), (30, .istore_n 1, 1), (31, .iinc 2 1, 3), (34, .goto (-30), 3), (37, .iload_n 1, 1), (38, .ireturn, 1)] = true := by decide +kernel
theorem dX9_ownedAll_0 : decode cX9_ownedAll 0 = .ok (.iconst 0, 1) := dget zdX9_ownedAll_0 0 rfl
theorem dX9_ownedAll_1 : decode cX9_ownedAll 1 = .ok (.istore_n 1, 1) := dget zdX9_ownedAll_0 1 rfl
theorem dX9_ownedAll_2 : decode cX9_ownedAll 2 = .ok (.iconst 0, 1) := dget zdX9_ownedAll_0 2 rfl
theorem dX9_ownedAll_3 : decode cX9_ownedAll 3 = .ok (.istore_n 2, 1) := dget zdX9_ownedAll_0 3 rfl
theorem dX9_ownedAll_4 : decode cX9_ownedAll 4 = .ok (.iload_n 2, 1) := dget zdX9_ownedAll_0 4 rfl
theorem dX9_ownedAll_5 : decode cX9_ownedAll 5 = .ok (.aload_n 0, 1) := dget zdX9_ownedAll_0 5 rfl
theorem dX9_ownedAll_6 : decode cX9_ownedAll 6 = .ok (.invokevirtual 63, 3) := dget zdX9_ownedAll_0 6 rfl
theorem dX9_ownedAll_9 : decode cX9_ownedAll 9 = .ok (.if_icmp .ge 28, 3) := dget zdX9_ownedAll_0 7 rfl
theorem dX9_ownedAll_12 : decode cX9_ownedAll 12 = .ok (.iload_n 1, 1) := dget zdX9_ownedAll_0 8 rfl
theorem dX9_ownedAll_13 : decode cX9_ownedAll 13 = .ok (.aload_n 0, 1) := dget zdX9_ownedAll_0 9 rfl
theorem dX9_ownedAll_14 : decode cX9_ownedAll 14 = .ok (.getfield 13, 3) := dget zdX9_ownedAll_0 10 rfl
theorem dX9_ownedAll_17 : decode cX9_ownedAll 17 = .ok (.iload_n 2, 1) := dget zdX9_ownedAll_0 11 rfl
theorem dX9_ownedAll_18 : decode cX9_ownedAll 18 = .ok (.iaload, 1) := dget zdX9_ownedAll_0 12 rfl
theorem dX9_ownedAll_19 : decode cX9_ownedAll 19 = .ok (.bipush (-4), 2) := dget zdX9_ownedAll_0 13 rfl
theorem dX9_ownedAll_21 : decode cX9_ownedAll 21 = .ok (.if_icmp .ne 7, 3) := dget zdX9_ownedAll_0 14 rfl
theorem dX9_ownedAll_24 : decode cX9_ownedAll 24 = .ok (.iconst 0, 1) := dget zdX9_ownedAll_0 15 rfl
theorem dX9_ownedAll_25 : decode cX9_ownedAll 25 = .ok (.goto 4, 3) := dget zdX9_ownedAll_0 16 rfl
theorem dX9_ownedAll_28 : decode cX9_ownedAll 28 = .ok (.iconst 1, 1) := dget zdX9_ownedAll_0 17 rfl
theorem dX9_ownedAll_29 : decode cX9_ownedAll 29 = .ok (.iadd, 1) := dget zdX9_ownedAll_0 18 rfl
theorem dX9_ownedAll_30 : decode cX9_ownedAll 30 = .ok (.istore_n 1, 1) := dget zdX9_ownedAll_0 19 rfl
theorem dX9_ownedAll_31 : decode cX9_ownedAll 31 = .ok (.iinc 2 1, 3) := dget zdX9_ownedAll_0 20 rfl
theorem dX9_ownedAll_34 : decode cX9_ownedAll 34 = .ok (.goto (-30), 3) := dget zdX9_ownedAll_0 21 rfl
theorem dX9_ownedAll_37 : decode cX9_ownedAll 37 = .ok (.iload_n 1, 1) := dget zdX9_ownedAll_0 22 rfl
theorem dX9_ownedAll_38 : decode cX9_ownedAll 38 = .ok (.ireturn, 1) := dget zdX9_ownedAll_0 23 rfl
theorem zdX9_winter_0 : dchk cX9_winter [(0, .iload_n 1, 1), (1, .iconst 0, 1), (2, .sipush 9999, 3), (5, .invokestatic 67, 3), (8, .ifCond .eq 22, 3), (11, .iload_n 2, 1), (12, .iconst 1, 1), (13, .bipush 60, 2), (15, .invokestatic 67, 3), (18, .ifCond .eq 12, 3), (21, .iload_n 3, 1), (22, .iconst 0, 1), (23, .iconst 2, 1), (24, .invokestatic 67, 3), (27, .ifCond .ne 5, 3), (30, .iconst (-1), 1), (31, .ireturn, 1), (32, .aload_n 0, 1), (33, .aload_n 0, 1), (34, .getfield 46, 3), (37, .iconst 0, 1), (38, .invokevirtual 148, 3), (41, .iconst 0, 1), (42, .istore 4, 2), (44, .iconst 0, 1), (45, .istore 5, 2), (47, .iload 5, 2), (49, .iload_n 2, 1), (50, .if_icmp .ge 157, 3), (53, .ldc2_w 206, 3), (56, .iload_n 1, 1), (57, .i2l, 1), (58, .lmul, 1), (59, .ldc2_w 208, 3), (62, .iload 5, 2), (64, .i2l, 1), (65, .lmul, 1), (66, .ladd, 1), (67, .lconst 1, 1), (68, .ladd, 1), (69, .lstore 6, 2), (71, .lload 6, 2), (73, .lload 6, 2), (75, .lmul, 1), (76, .ldc2_w 210, 3), (79, .lrem, 1), (80, .ldc2_w 212, 3), (83, .ldiv, 1), (84, .l2i, 1), (85, .istore 8, 2), (87, .iload 8, 2), (89, .aload_n 0, 1), (90, .invokevirtual 63, 3), (93, .irem, 1), (94, .istore 9, 2), (96, .iload 8, 2), (98, .bipush 64, 2), (100, .idiv, 1), (101, .iconst 4, 1), (102, .irem, 1), (103, .istore 10, 2), (105, .iload 10, 2), (107, .ifCond .ne 21, 3), (110, .aload_n 0, 1), (111, .getfield 7, 3), (114, .iload 9, 2), (116, .iload 8, 2), (118, .sipush 256, 3), (121, .idiv, 1), (122, .iconst 4, 1), (123, .irem, 1), (124, .iastore, 1), (125, .goto 76, 3), (128, .iload 10, 2), (130, .iconst 1, 1), (131, .if_icmp .ne 17, 3), (134, .aload_n 0, 1), (135, .iload 9, 2), (137, .aload_n 0, 1), (138, .getfield 52, 3), (141, .idiv, 1), (142, .invokevirtual 164, 3), (145, .goto 56, 3), (148, .aload_n 0, 1), (149, .iload 9, 2), (151, .aload_n 0, 1), (152, .getfield 52, 3), (155, .irem, 1), (156, .iload 8, 2), (158, .sipush 256, 3), (161, .idiv, 1), (162, .bipush 20, 2), (164, .irem, 1), (165, .iconst 1, 1), (166, .iadd, 1), (167, .iconst 0, 1), (168, .invokevirtual 137, 3), (171, .istore 11, 2), (173, .aload_n 0, 1), (174, .iload 8, 2), (176, .bipush 16, 2), (178, .idiv, 1), (179, .iconst 4, 1), (180, .irem, 1), (181, .invokevirtual 155, 3), (184, .iload 4, 2), (186, .iload 11, 2), (188, .bipush 99, 2), (190, .if_icmp .ne 7, 3), (193, .iconst 1, 1), (194, .goto 4, 3), (197, .iconst 0, 1), (198, .iadd, 1), (199, .istore 4, 2), (201, .iinc 5 1, 3), (204, .goto (-157), 3), (207, .iload_n 3, 1), (208, .ifCond .ne 10, 3), (211, .aload_n 0, 1), (212, .invokevirtual 214, 3)] = true := by decide +kernel
theorem dX9_winter_0 : decode cX9_winter 0 = .ok (.iload_n 1, 1) := dget zdX9_winter_0 0 rfl
theorem dX9_winter_1 : decode cX9_winter 1 = .ok (.iconst 0, 1) := dget zdX9_winter_0 1 rfl
theorem dX9_winter_2 : decode cX9_winter 2 = .ok (.sipush 9999, 3) := dget zdX9_winter_0 2 rfl
theorem dX9_winter_5 : decode cX9_winter 5 = .ok (.invokestatic 67, 3) := dget zdX9_winter_0 3 rfl
theorem dX9_winter_8 : decode cX9_winter 8 = .ok (.ifCond .eq 22, 3) := dget zdX9_winter_0 4 rfl
theorem dX9_winter_11 : decode cX9_winter 11 = .ok (.iload_n 2, 1) := dget zdX9_winter_0 5 rfl
theorem dX9_winter_12 : decode cX9_winter 12 = .ok (.iconst 1, 1) := dget zdX9_winter_0 6 rfl
theorem dX9_winter_13 : decode cX9_winter 13 = .ok (.bipush 60, 2) := dget zdX9_winter_0 7 rfl
theorem dX9_winter_15 : decode cX9_winter 15 = .ok (.invokestatic 67, 3) := dget zdX9_winter_0 8 rfl
theorem dX9_winter_18 : decode cX9_winter 18 = .ok (.ifCond .eq 12, 3) := dget zdX9_winter_0 9 rfl
theorem dX9_winter_21 : decode cX9_winter 21 = .ok (.iload_n 3, 1) := dget zdX9_winter_0 10 rfl
theorem dX9_winter_22 : decode cX9_winter 22 = .ok (.iconst 0, 1) := dget zdX9_winter_0 11 rfl
theorem dX9_winter_23 : decode cX9_winter 23 = .ok (.iconst 2, 1) := dget zdX9_winter_0 12 rfl
theorem dX9_winter_24 : decode cX9_winter 24 = .ok (.invokestatic 67, 3) := dget zdX9_winter_0 13 rfl
theorem dX9_winter_27 : decode cX9_winter 27 = .ok (.ifCond .ne 5, 3) := dget zdX9_winter_0 14 rfl
theorem dX9_winter_30 : decode cX9_winter 30 = .ok (.iconst (-1), 1) := dget zdX9_winter_0 15 rfl
theorem dX9_winter_31 : decode cX9_winter 31 = .ok (.ireturn, 1) := dget zdX9_winter_0 16 rfl
theorem dX9_winter_32 : decode cX9_winter 32 = .ok (.aload_n 0, 1) := dget zdX9_winter_0 17 rfl
theorem dX9_winter_33 : decode cX9_winter 33 = .ok (.aload_n 0, 1) := dget zdX9_winter_0 18 rfl
theorem dX9_winter_34 : decode cX9_winter 34 = .ok (.getfield 46, 3) := dget zdX9_winter_0 19 rfl
theorem dX9_winter_37 : decode cX9_winter 37 = .ok (.iconst 0, 1) := dget zdX9_winter_0 20 rfl
theorem dX9_winter_38 : decode cX9_winter 38 = .ok (.invokevirtual 148, 3) := dget zdX9_winter_0 21 rfl
theorem dX9_winter_41 : decode cX9_winter 41 = .ok (.iconst 0, 1) := dget zdX9_winter_0 22 rfl
theorem dX9_winter_42 : decode cX9_winter 42 = .ok (.istore 4, 2) := dget zdX9_winter_0 23 rfl
theorem dX9_winter_44 : decode cX9_winter 44 = .ok (.iconst 0, 1) := dget zdX9_winter_0 24 rfl
theorem dX9_winter_45 : decode cX9_winter 45 = .ok (.istore 5, 2) := dget zdX9_winter_0 25 rfl
theorem dX9_winter_47 : decode cX9_winter 47 = .ok (.iload 5, 2) := dget zdX9_winter_0 26 rfl
theorem dX9_winter_49 : decode cX9_winter 49 = .ok (.iload_n 2, 1) := dget zdX9_winter_0 27 rfl
theorem dX9_winter_50 : decode cX9_winter 50 = .ok (.if_icmp .ge 157, 3) := dget zdX9_winter_0 28 rfl
theorem dX9_winter_53 : decode cX9_winter 53 = .ok (.ldc2_w 206, 3) := dget zdX9_winter_0 29 rfl
theorem dX9_winter_56 : decode cX9_winter 56 = .ok (.iload_n 1, 1) := dget zdX9_winter_0 30 rfl
theorem dX9_winter_57 : decode cX9_winter 57 = .ok (.i2l, 1) := dget zdX9_winter_0 31 rfl
theorem dX9_winter_58 : decode cX9_winter 58 = .ok (.lmul, 1) := dget zdX9_winter_0 32 rfl
theorem dX9_winter_59 : decode cX9_winter 59 = .ok (.ldc2_w 208, 3) := dget zdX9_winter_0 33 rfl
theorem dX9_winter_62 : decode cX9_winter 62 = .ok (.iload 5, 2) := dget zdX9_winter_0 34 rfl
theorem dX9_winter_64 : decode cX9_winter 64 = .ok (.i2l, 1) := dget zdX9_winter_0 35 rfl
theorem dX9_winter_65 : decode cX9_winter 65 = .ok (.lmul, 1) := dget zdX9_winter_0 36 rfl
theorem dX9_winter_66 : decode cX9_winter 66 = .ok (.ladd, 1) := dget zdX9_winter_0 37 rfl
theorem dX9_winter_67 : decode cX9_winter 67 = .ok (.lconst 1, 1) := dget zdX9_winter_0 38 rfl
theorem dX9_winter_68 : decode cX9_winter 68 = .ok (.ladd, 1) := dget zdX9_winter_0 39 rfl
theorem dX9_winter_69 : decode cX9_winter 69 = .ok (.lstore 6, 2) := dget zdX9_winter_0 40 rfl
theorem dX9_winter_71 : decode cX9_winter 71 = .ok (.lload 6, 2) := dget zdX9_winter_0 41 rfl
theorem dX9_winter_73 : decode cX9_winter 73 = .ok (.lload 6, 2) := dget zdX9_winter_0 42 rfl
theorem dX9_winter_75 : decode cX9_winter 75 = .ok (.lmul, 1) := dget zdX9_winter_0 43 rfl
theorem dX9_winter_76 : decode cX9_winter 76 = .ok (.ldc2_w 210, 3) := dget zdX9_winter_0 44 rfl
theorem dX9_winter_79 : decode cX9_winter 79 = .ok (.lrem, 1) := dget zdX9_winter_0 45 rfl
theorem dX9_winter_80 : decode cX9_winter 80 = .ok (.ldc2_w 212, 3) := dget zdX9_winter_0 46 rfl
theorem dX9_winter_83 : decode cX9_winter 83 = .ok (.ldiv, 1) := dget zdX9_winter_0 47 rfl
theorem dX9_winter_84 : decode cX9_winter 84 = .ok (.l2i, 1) := dget zdX9_winter_0 48 rfl
theorem dX9_winter_85 : decode cX9_winter 85 = .ok (.istore 8, 2) := dget zdX9_winter_0 49 rfl
theorem dX9_winter_87 : decode cX9_winter 87 = .ok (.iload 8, 2) := dget zdX9_winter_0 50 rfl
theorem dX9_winter_89 : decode cX9_winter 89 = .ok (.aload_n 0, 1) := dget zdX9_winter_0 51 rfl
theorem dX9_winter_90 : decode cX9_winter 90 = .ok (.invokevirtual 63, 3) := dget zdX9_winter_0 52 rfl
theorem dX9_winter_93 : decode cX9_winter 93 = .ok (.irem, 1) := dget zdX9_winter_0 53 rfl
theorem dX9_winter_94 : decode cX9_winter 94 = .ok (.istore 9, 2) := dget zdX9_winter_0 54 rfl
theorem dX9_winter_96 : decode cX9_winter 96 = .ok (.iload 8, 2) := dget zdX9_winter_0 55 rfl
theorem dX9_winter_98 : decode cX9_winter 98 = .ok (.bipush 64, 2) := dget zdX9_winter_0 56 rfl
theorem dX9_winter_100 : decode cX9_winter 100 = .ok (.idiv, 1) := dget zdX9_winter_0 57 rfl
theorem dX9_winter_101 : decode cX9_winter 101 = .ok (.iconst 4, 1) := dget zdX9_winter_0 58 rfl
theorem dX9_winter_102 : decode cX9_winter 102 = .ok (.irem, 1) := dget zdX9_winter_0 59 rfl
theorem dX9_winter_103 : decode cX9_winter 103 = .ok (.istore 10, 2) := dget zdX9_winter_0 60 rfl
theorem dX9_winter_105 : decode cX9_winter 105 = .ok (.iload 10, 2) := dget zdX9_winter_0 61 rfl
theorem dX9_winter_107 : decode cX9_winter 107 = .ok (.ifCond .ne 21, 3) := dget zdX9_winter_0 62 rfl
theorem dX9_winter_110 : decode cX9_winter 110 = .ok (.aload_n 0, 1) := dget zdX9_winter_0 63 rfl
theorem dX9_winter_111 : decode cX9_winter 111 = .ok (.getfield 7, 3) := dget zdX9_winter_0 64 rfl
theorem dX9_winter_114 : decode cX9_winter 114 = .ok (.iload 9, 2) := dget zdX9_winter_0 65 rfl
theorem dX9_winter_116 : decode cX9_winter 116 = .ok (.iload 8, 2) := dget zdX9_winter_0 66 rfl
theorem dX9_winter_118 : decode cX9_winter 118 = .ok (.sipush 256, 3) := dget zdX9_winter_0 67 rfl
theorem dX9_winter_121 : decode cX9_winter 121 = .ok (.idiv, 1) := dget zdX9_winter_0 68 rfl
theorem dX9_winter_122 : decode cX9_winter 122 = .ok (.iconst 4, 1) := dget zdX9_winter_0 69 rfl
theorem dX9_winter_123 : decode cX9_winter 123 = .ok (.irem, 1) := dget zdX9_winter_0 70 rfl
theorem dX9_winter_124 : decode cX9_winter 124 = .ok (.iastore, 1) := dget zdX9_winter_0 71 rfl
theorem dX9_winter_125 : decode cX9_winter 125 = .ok (.goto 76, 3) := dget zdX9_winter_0 72 rfl
theorem dX9_winter_128 : decode cX9_winter 128 = .ok (.iload 10, 2) := dget zdX9_winter_0 73 rfl
theorem dX9_winter_130 : decode cX9_winter 130 = .ok (.iconst 1, 1) := dget zdX9_winter_0 74 rfl
theorem dX9_winter_131 : decode cX9_winter 131 = .ok (.if_icmp .ne 17, 3) := dget zdX9_winter_0 75 rfl
theorem dX9_winter_134 : decode cX9_winter 134 = .ok (.aload_n 0, 1) := dget zdX9_winter_0 76 rfl
theorem dX9_winter_135 : decode cX9_winter 135 = .ok (.iload 9, 2) := dget zdX9_winter_0 77 rfl
theorem dX9_winter_137 : decode cX9_winter 137 = .ok (.aload_n 0, 1) := dget zdX9_winter_0 78 rfl
theorem dX9_winter_138 : decode cX9_winter 138 = .ok (.getfield 52, 3) := dget zdX9_winter_0 79 rfl
theorem dX9_winter_141 : decode cX9_winter 141 = .ok (.idiv, 1) := dget zdX9_winter_0 80 rfl
theorem dX9_winter_142 : decode cX9_winter 142 = .ok (.invokevirtual 164, 3) := dget zdX9_winter_0 81 rfl
theorem dX9_winter_145 : decode cX9_winter 145 = .ok (.goto 56, 3) := dget zdX9_winter_0 82 rfl
theorem dX9_winter_148 : decode cX9_winter 148 = .ok (.aload_n 0, 1) := dget zdX9_winter_0 83 rfl
theorem dX9_winter_149 : decode cX9_winter 149 = .ok (.iload 9, 2) := dget zdX9_winter_0 84 rfl
theorem dX9_winter_151 : decode cX9_winter 151 = .ok (.aload_n 0, 1) := dget zdX9_winter_0 85 rfl
theorem dX9_winter_152 : decode cX9_winter 152 = .ok (.getfield 52, 3) := dget zdX9_winter_0 86 rfl
theorem dX9_winter_155 : decode cX9_winter 155 = .ok (.irem, 1) := dget zdX9_winter_0 87 rfl
theorem dX9_winter_156 : decode cX9_winter 156 = .ok (.iload 8, 2) := dget zdX9_winter_0 88 rfl
theorem dX9_winter_158 : decode cX9_winter 158 = .ok (.sipush 256, 3) := dget zdX9_winter_0 89 rfl
theorem dX9_winter_161 : decode cX9_winter 161 = .ok (.idiv, 1) := dget zdX9_winter_0 90 rfl
theorem dX9_winter_162 : decode cX9_winter 162 = .ok (.bipush 20, 2) := dget zdX9_winter_0 91 rfl
theorem dX9_winter_164 : decode cX9_winter 164 = .ok (.irem, 1) := dget zdX9_winter_0 92 rfl
theorem dX9_winter_165 : decode cX9_winter 165 = .ok (.iconst 1, 1) := dget zdX9_winter_0 93 rfl
theorem dX9_winter_166 : decode cX9_winter 166 = .ok (.iadd, 1) := dget zdX9_winter_0 94 rfl
theorem dX9_winter_167 : decode cX9_winter 167 = .ok (.iconst 0, 1) := dget zdX9_winter_0 95 rfl
theorem dX9_winter_168 : decode cX9_winter 168 = .ok (.invokevirtual 137, 3) := dget zdX9_winter_0 96 rfl
theorem dX9_winter_171 : decode cX9_winter 171 = .ok (.istore 11, 2) := dget zdX9_winter_0 97 rfl
theorem dX9_winter_173 : decode cX9_winter 173 = .ok (.aload_n 0, 1) := dget zdX9_winter_0 98 rfl
theorem dX9_winter_174 : decode cX9_winter 174 = .ok (.iload 8, 2) := dget zdX9_winter_0 99 rfl
theorem dX9_winter_176 : decode cX9_winter 176 = .ok (.bipush 16, 2) := dget zdX9_winter_0 100 rfl
theorem dX9_winter_178 : decode cX9_winter 178 = .ok (.idiv, 1) := dget zdX9_winter_0 101 rfl
theorem dX9_winter_179 : decode cX9_winter 179 = .ok (.iconst 4, 1) := dget zdX9_winter_0 102 rfl
theorem dX9_winter_180 : decode cX9_winter 180 = .ok (.irem, 1) := dget zdX9_winter_0 103 rfl
theorem dX9_winter_181 : decode cX9_winter 181 = .ok (.invokevirtual 155, 3) := dget zdX9_winter_0 104 rfl
theorem dX9_winter_184 : decode cX9_winter 184 = .ok (.iload 4, 2) := dget zdX9_winter_0 105 rfl
theorem dX9_winter_186 : decode cX9_winter 186 = .ok (.iload 11, 2) := dget zdX9_winter_0 106 rfl
theorem dX9_winter_188 : decode cX9_winter 188 = .ok (.bipush 99, 2) := dget zdX9_winter_0 107 rfl
theorem dX9_winter_190 : decode cX9_winter 190 = .ok (.if_icmp .ne 7, 3) := dget zdX9_winter_0 108 rfl
theorem dX9_winter_193 : decode cX9_winter 193 = .ok (.iconst 1, 1) := dget zdX9_winter_0 109 rfl
theorem dX9_winter_194 : decode cX9_winter 194 = .ok (.goto 4, 3) := dget zdX9_winter_0 110 rfl
theorem dX9_winter_197 : decode cX9_winter 197 = .ok (.iconst 0, 1) := dget zdX9_winter_0 111 rfl
theorem dX9_winter_198 : decode cX9_winter 198 = .ok (.iadd, 1) := dget zdX9_winter_0 112 rfl
theorem dX9_winter_199 : decode cX9_winter 199 = .ok (.istore 4, 2) := dget zdX9_winter_0 113 rfl
theorem dX9_winter_201 : decode cX9_winter 201 = .ok (.iinc 5 1, 3) := dget zdX9_winter_0 114 rfl
theorem dX9_winter_204 : decode cX9_winter 204 = .ok (.goto (-157), 3) := dget zdX9_winter_0 115 rfl
theorem dX9_winter_207 : decode cX9_winter 207 = .ok (.iload_n 3, 1) := dget zdX9_winter_0 116 rfl
theorem dX9_winter_208 : decode cX9_winter 208 = .ok (.ifCond .ne 10, 3) := dget zdX9_winter_0 117 rfl
theorem dX9_winter_211 : decode cX9_winter 211 = .ok (.aload_n 0, 1) := dget zdX9_winter_0 118 rfl
theorem dX9_winter_212 : decode cX9_winter 212 = .ok (.invokevirtual 214, 3) := dget zdX9_winter_0 119 rfl
theorem zdX9_winter_120 : dchk cX9_winter [(215, .goto 17, 3), (218, .iload_n 3, 1), (219, .iconst 1, 1), (220, .if_icmp .ne 10, 3), (223, .aload_n 0, 1), (224, .invokevirtual 217, 3), (227, .goto 5, 3), (230, .iload 4, 2), (232, .istore 5, 2), (234, .aload_n 0, 1), (235, .aload_n 0, 1), (236, .getfield 46, 3), (239, .iconst 0, 1), (240, .invokevirtual 167, 3), (243, .iload 5, 2), (245, .ireturn, 1)] = true := by decide +kernel
theorem dX9_winter_215 : decode cX9_winter 215 = .ok (.goto 17, 3) := dget zdX9_winter_120 0 rfl
theorem dX9_winter_218 : decode cX9_winter 218 = .ok (.iload_n 3, 1) := dget zdX9_winter_120 1 rfl
theorem dX9_winter_219 : decode cX9_winter 219 = .ok (.iconst 1, 1) := dget zdX9_winter_120 2 rfl
theorem dX9_winter_220 : decode cX9_winter 220 = .ok (.if_icmp .ne 10, 3) := dget zdX9_winter_120 3 rfl
theorem dX9_winter_223 : decode cX9_winter 223 = .ok (.aload_n 0, 1) := dget zdX9_winter_120 4 rfl
theorem dX9_winter_224 : decode cX9_winter 224 = .ok (.invokevirtual 217, 3) := dget zdX9_winter_120 5 rfl
theorem dX9_winter_227 : decode cX9_winter 227 = .ok (.goto 5, 3) := dget zdX9_winter_120 6 rfl
theorem dX9_winter_230 : decode cX9_winter 230 = .ok (.iload 4, 2) := dget zdX9_winter_120 7 rfl
theorem dX9_winter_232 : decode cX9_winter 232 = .ok (.istore 5, 2) := dget zdX9_winter_120 8 rfl
theorem dX9_winter_234 : decode cX9_winter 234 = .ok (.aload_n 0, 1) := dget zdX9_winter_120 9 rfl
theorem dX9_winter_235 : decode cX9_winter 235 = .ok (.aload_n 0, 1) := dget zdX9_winter_120 10 rfl
theorem dX9_winter_236 : decode cX9_winter 236 = .ok (.getfield 46, 3) := dget zdX9_winter_120 11 rfl
theorem dX9_winter_239 : decode cX9_winter 239 = .ok (.iconst 0, 1) := dget zdX9_winter_120 12 rfl
theorem dX9_winter_240 : decode cX9_winter 240 = .ok (.invokevirtual 167, 3) := dget zdX9_winter_120 13 rfl
theorem dX9_winter_243 : decode cX9_winter 243 = .ok (.iload 5, 2) := dget zdX9_winter_120 14 rfl
theorem dX9_winter_245 : decode cX9_winter 245 = .ok (.ireturn, 1) := dget zdX9_winter_120 15 rfl
theorem zdX9_keep_0 : dchk cX9_keep [(0, .aload_n 0, 1), (1, .getfield 124, 3), (4, .iconst 2, 1), (5, .if_icmp .ne 6, 3), (8, .bipush (-3), 2), (10, .ireturn, 1), (11, .aload_n 0, 1), (12, .aload_n 0, 1), (13, .getfield 49, 3), (16, .bipush 97, 2), (18, .aload_n 0, 1), (19, .getfield 124, 3), (22, .imul, 1), (23, .invokevirtual 148, 3), (26, .aload_n 0, 1), (27, .dup, 1), (28, .getfield 124, 3), (31, .iconst 1, 1), (32, .iadd, 1), (33, .putfield 124, 3), (36, .aload_n 0, 1), (37, .getfield 124, 3), (40, .ireturn, 1)] = true := by decide +kernel
theorem dX9_keep_0 : decode cX9_keep 0 = .ok (.aload_n 0, 1) := dget zdX9_keep_0 0 rfl
theorem dX9_keep_1 : decode cX9_keep 1 = .ok (.getfield 124, 3) := dget zdX9_keep_0 1 rfl
theorem dX9_keep_4 : decode cX9_keep 4 = .ok (.iconst 2, 1) := dget zdX9_keep_0 2 rfl
theorem dX9_keep_5 : decode cX9_keep 5 = .ok (.if_icmp .ne 6, 3) := dget zdX9_keep_0 3 rfl
theorem dX9_keep_8 : decode cX9_keep 8 = .ok (.bipush (-3), 2) := dget zdX9_keep_0 4 rfl
theorem dX9_keep_10 : decode cX9_keep 10 = .ok (.ireturn, 1) := dget zdX9_keep_0 5 rfl
theorem dX9_keep_11 : decode cX9_keep 11 = .ok (.aload_n 0, 1) := dget zdX9_keep_0 6 rfl
theorem dX9_keep_12 : decode cX9_keep 12 = .ok (.aload_n 0, 1) := dget zdX9_keep_0 7 rfl
theorem dX9_keep_13 : decode cX9_keep 13 = .ok (.getfield 49, 3) := dget zdX9_keep_0 8 rfl
theorem dX9_keep_16 : decode cX9_keep 16 = .ok (.bipush 97, 2) := dget zdX9_keep_0 9 rfl
theorem dX9_keep_18 : decode cX9_keep 18 = .ok (.aload_n 0, 1) := dget zdX9_keep_0 10 rfl
theorem dX9_keep_19 : decode cX9_keep 19 = .ok (.getfield 124, 3) := dget zdX9_keep_0 11 rfl
theorem dX9_keep_22 : decode cX9_keep 22 = .ok (.imul, 1) := dget zdX9_keep_0 12 rfl
theorem dX9_keep_23 : decode cX9_keep 23 = .ok (.invokevirtual 148, 3) := dget zdX9_keep_0 13 rfl
theorem dX9_keep_26 : decode cX9_keep 26 = .ok (.aload_n 0, 1) := dget zdX9_keep_0 14 rfl
theorem dX9_keep_27 : decode cX9_keep 27 = .ok (.dup, 1) := dget zdX9_keep_0 15 rfl
theorem dX9_keep_28 : decode cX9_keep 28 = .ok (.getfield 124, 3) := dget zdX9_keep_0 16 rfl
theorem dX9_keep_31 : decode cX9_keep 31 = .ok (.iconst 1, 1) := dget zdX9_keep_0 17 rfl
theorem dX9_keep_32 : decode cX9_keep 32 = .ok (.iadd, 1) := dget zdX9_keep_0 18 rfl
theorem dX9_keep_33 : decode cX9_keep 33 = .ok (.putfield 124, 3) := dget zdX9_keep_0 19 rfl
theorem dX9_keep_36 : decode cX9_keep 36 = .ok (.aload_n 0, 1) := dget zdX9_keep_0 20 rfl
theorem dX9_keep_37 : decode cX9_keep 37 = .ok (.getfield 124, 3) := dget zdX9_keep_0 21 rfl
theorem dX9_keep_40 : decode cX9_keep 40 = .ok (.ireturn, 1) := dget zdX9_keep_0 22 rfl
theorem zdX9_back_0 : dchk cX9_back [(0, .aload_n 0, 1), (1, .getfield 124, 3), (4, .ifCond .ne 6, 3), (7, .bipush (-2), 2), (9, .ireturn, 1), (10, .aload_n 0, 1), (11, .dup, 1), (12, .getfield 124, 3), (15, .iconst 1, 1), (16, .isub, 1), (17, .putfield 124, 3), (20, .aload_n 0, 1), (21, .aload_n 0, 1), (22, .getfield 49, 3), (25, .bipush 97, 2), (27, .aload_n 0, 1), (28, .getfield 124, 3), (31, .imul, 1), (32, .invokevirtual 167, 3), (35, .aload_n 0, 1), (36, .iconst 0, 1), (37, .putfield 121, 3), (40, .aload_n 0, 1), (41, .getfield 124, 3), (44, .ireturn, 1)] = true := by decide +kernel
theorem dX9_back_0 : decode cX9_back 0 = .ok (.aload_n 0, 1) := dget zdX9_back_0 0 rfl
theorem dX9_back_1 : decode cX9_back 1 = .ok (.getfield 124, 3) := dget zdX9_back_0 1 rfl
theorem dX9_back_4 : decode cX9_back 4 = .ok (.ifCond .ne 6, 3) := dget zdX9_back_0 2 rfl
theorem dX9_back_7 : decode cX9_back 7 = .ok (.bipush (-2), 2) := dget zdX9_back_0 3 rfl
theorem dX9_back_9 : decode cX9_back 9 = .ok (.ireturn, 1) := dget zdX9_back_0 4 rfl
theorem dX9_back_10 : decode cX9_back 10 = .ok (.aload_n 0, 1) := dget zdX9_back_0 5 rfl
theorem dX9_back_11 : decode cX9_back 11 = .ok (.dup, 1) := dget zdX9_back_0 6 rfl
theorem dX9_back_12 : decode cX9_back 12 = .ok (.getfield 124, 3) := dget zdX9_back_0 7 rfl
theorem dX9_back_15 : decode cX9_back 15 = .ok (.iconst 1, 1) := dget zdX9_back_0 8 rfl
theorem dX9_back_16 : decode cX9_back 16 = .ok (.isub, 1) := dget zdX9_back_0 9 rfl
theorem dX9_back_17 : decode cX9_back 17 = .ok (.putfield 124, 3) := dget zdX9_back_0 10 rfl
theorem dX9_back_20 : decode cX9_back 20 = .ok (.aload_n 0, 1) := dget zdX9_back_0 11 rfl
theorem dX9_back_21 : decode cX9_back 21 = .ok (.aload_n 0, 1) := dget zdX9_back_0 12 rfl
theorem dX9_back_22 : decode cX9_back 22 = .ok (.getfield 49, 3) := dget zdX9_back_0 13 rfl
theorem dX9_back_25 : decode cX9_back 25 = .ok (.bipush 97, 2) := dget zdX9_back_0 14 rfl
theorem dX9_back_27 : decode cX9_back 27 = .ok (.aload_n 0, 1) := dget zdX9_back_0 15 rfl
theorem dX9_back_28 : decode cX9_back 28 = .ok (.getfield 124, 3) := dget zdX9_back_0 16 rfl
theorem dX9_back_31 : decode cX9_back 31 = .ok (.imul, 1) := dget zdX9_back_0 17 rfl
theorem dX9_back_32 : decode cX9_back 32 = .ok (.invokevirtual 167, 3) := dget zdX9_back_0 18 rfl
theorem dX9_back_35 : decode cX9_back 35 = .ok (.aload_n 0, 1) := dget zdX9_back_0 19 rfl
theorem dX9_back_36 : decode cX9_back 36 = .ok (.iconst 0, 1) := dget zdX9_back_0 20 rfl
theorem dX9_back_37 : decode cX9_back 37 = .ok (.putfield 121, 3) := dget zdX9_back_0 21 rfl
theorem dX9_back_40 : decode cX9_back 40 = .ok (.aload_n 0, 1) := dget zdX9_back_0 22 rfl
theorem dX9_back_41 : decode cX9_back 41 = .ok (.getfield 124, 3) := dget zdX9_back_0 23 rfl
theorem dX9_back_44 : decode cX9_back 44 = .ok (.ireturn, 1) := dget zdX9_back_0 24 rfl
theorem zdX9_count_0 : dchk cX9_count [(0, .iload_n 1, 1), (1, .iconst 0, 1), (2, .bipush 9, 2), (4, .invokestatic 67, 3), (7, .ifCond .ne 5, 3), (10, .iconst (-1), 1), (11, .ireturn, 1), (12, .iload_n 1, 1), (13, .tableswitch 96 0 8 #[51, 56, 61, 66, 71, 76, 81, 86, 91], 51), (64, .aload_n 0, 1), (65, .invokevirtual 63, 3), (68, .ireturn, 1), (69, .aload_n 0, 1), (70, .getfield 52, 3), (73, .ireturn, 1), (74, .aload_n 0, 1), (75, .getfield 60, 3), (78, .ireturn, 1), (79, .aload_n 0, 1), (80, .invokevirtual 214, 3), (83, .ireturn, 1), (84, .aload_n 0, 1), (85, .invokevirtual 217, 3), (88, .ireturn, 1), (89, .aload_n 0, 1), (90, .getfield 115, 3), (93, .ireturn, 1), (94, .aload_n 0, 1), (95, .getfield 118, 3), (98, .ireturn, 1), (99, .aload_n 0, 1), (100, .getfield 121, 3), (103, .ireturn, 1), (104, .aload_n 0, 1), (105, .getfield 124, 3), (108, .ireturn, 1), (109, .aload_n 0, 1), (110, .getfield 78, 3), (113, .ireturn, 1)] = true := by decide +kernel
theorem dX9_count_0 : decode cX9_count 0 = .ok (.iload_n 1, 1) := dget zdX9_count_0 0 rfl
theorem dX9_count_1 : decode cX9_count 1 = .ok (.iconst 0, 1) := dget zdX9_count_0 1 rfl
theorem dX9_count_2 : decode cX9_count 2 = .ok (.bipush 9, 2) := dget zdX9_count_0 2 rfl
theorem dX9_count_4 : decode cX9_count 4 = .ok (.invokestatic 67, 3) := dget zdX9_count_0 3 rfl
theorem dX9_count_7 : decode cX9_count 7 = .ok (.ifCond .ne 5, 3) := dget zdX9_count_0 4 rfl
theorem dX9_count_10 : decode cX9_count 10 = .ok (.iconst (-1), 1) := dget zdX9_count_0 5 rfl
theorem dX9_count_11 : decode cX9_count 11 = .ok (.ireturn, 1) := dget zdX9_count_0 6 rfl
theorem dX9_count_12 : decode cX9_count 12 = .ok (.iload_n 1, 1) := dget zdX9_count_0 7 rfl
theorem dX9_count_13 : decode cX9_count 13 = .ok (.tableswitch 96 0 8 #[51, 56, 61, 66, 71, 76, 81, 86, 91], 51) := dget zdX9_count_0 8 rfl
theorem dX9_count_64 : decode cX9_count 64 = .ok (.aload_n 0, 1) := dget zdX9_count_0 9 rfl
theorem dX9_count_65 : decode cX9_count 65 = .ok (.invokevirtual 63, 3) := dget zdX9_count_0 10 rfl
theorem dX9_count_68 : decode cX9_count 68 = .ok (.ireturn, 1) := dget zdX9_count_0 11 rfl
theorem dX9_count_69 : decode cX9_count 69 = .ok (.aload_n 0, 1) := dget zdX9_count_0 12 rfl
theorem dX9_count_70 : decode cX9_count 70 = .ok (.getfield 52, 3) := dget zdX9_count_0 13 rfl
theorem dX9_count_73 : decode cX9_count 73 = .ok (.ireturn, 1) := dget zdX9_count_0 14 rfl
theorem dX9_count_74 : decode cX9_count 74 = .ok (.aload_n 0, 1) := dget zdX9_count_0 15 rfl
theorem dX9_count_75 : decode cX9_count 75 = .ok (.getfield 60, 3) := dget zdX9_count_0 16 rfl
theorem dX9_count_78 : decode cX9_count 78 = .ok (.ireturn, 1) := dget zdX9_count_0 17 rfl
theorem dX9_count_79 : decode cX9_count 79 = .ok (.aload_n 0, 1) := dget zdX9_count_0 18 rfl
theorem dX9_count_80 : decode cX9_count 80 = .ok (.invokevirtual 214, 3) := dget zdX9_count_0 19 rfl
theorem dX9_count_83 : decode cX9_count 83 = .ok (.ireturn, 1) := dget zdX9_count_0 20 rfl
theorem dX9_count_84 : decode cX9_count 84 = .ok (.aload_n 0, 1) := dget zdX9_count_0 21 rfl
theorem dX9_count_85 : decode cX9_count 85 = .ok (.invokevirtual 217, 3) := dget zdX9_count_0 22 rfl
theorem dX9_count_88 : decode cX9_count 88 = .ok (.ireturn, 1) := dget zdX9_count_0 23 rfl
theorem dX9_count_89 : decode cX9_count 89 = .ok (.aload_n 0, 1) := dget zdX9_count_0 24 rfl
theorem dX9_count_90 : decode cX9_count 90 = .ok (.getfield 115, 3) := dget zdX9_count_0 25 rfl
theorem dX9_count_93 : decode cX9_count 93 = .ok (.ireturn, 1) := dget zdX9_count_0 26 rfl
theorem dX9_count_94 : decode cX9_count 94 = .ok (.aload_n 0, 1) := dget zdX9_count_0 27 rfl
theorem dX9_count_95 : decode cX9_count 95 = .ok (.getfield 118, 3) := dget zdX9_count_0 28 rfl
theorem dX9_count_98 : decode cX9_count 98 = .ok (.ireturn, 1) := dget zdX9_count_0 29 rfl
theorem dX9_count_99 : decode cX9_count 99 = .ok (.aload_n 0, 1) := dget zdX9_count_0 30 rfl
theorem dX9_count_100 : decode cX9_count 100 = .ok (.getfield 121, 3) := dget zdX9_count_0 31 rfl
theorem dX9_count_103 : decode cX9_count 103 = .ok (.ireturn, 1) := dget zdX9_count_0 32 rfl
theorem dX9_count_104 : decode cX9_count 104 = .ok (.aload_n 0, 1) := dget zdX9_count_0 33 rfl
theorem dX9_count_105 : decode cX9_count 105 = .ok (.getfield 124, 3) := dget zdX9_count_0 34 rfl
theorem dX9_count_108 : decode cX9_count 108 = .ok (.ireturn, 1) := dget zdX9_count_0 35 rfl
theorem dX9_count_109 : decode cX9_count 109 = .ok (.aload_n 0, 1) := dget zdX9_count_0 36 rfl
theorem dX9_count_110 : decode cX9_count 110 = .ok (.getfield 78, 3) := dget zdX9_count_0 37 rfl
theorem dX9_count_113 : decode cX9_count 113 = .ok (.ireturn, 1) := dget zdX9_count_0 38 rfl
theorem zdJ9_max_7cf53_0 : dchk cJ9_max_7cf53 [(0, .iload_n 0, 1), (1, .iload_n 1, 1), (2, .if_icmp .lt 7, 3), (5, .iload_n 0, 1), (6, .goto 4, 3), (9, .iload_n 1, 1), (10, .ireturn, 1)] = true := by decide +kernel
theorem dJ9_max_7cf53_0 : decode cJ9_max_7cf53 0 = .ok (.iload_n 0, 1) := dget zdJ9_max_7cf53_0 0 rfl
theorem dJ9_max_7cf53_1 : decode cJ9_max_7cf53 1 = .ok (.iload_n 1, 1) := dget zdJ9_max_7cf53_0 1 rfl
theorem dJ9_max_7cf53_2 : decode cJ9_max_7cf53 2 = .ok (.if_icmp .lt 7, 3) := dget zdJ9_max_7cf53_0 2 rfl
theorem dJ9_max_7cf53_5 : decode cJ9_max_7cf53 5 = .ok (.iload_n 0, 1) := dget zdJ9_max_7cf53_0 3 rfl
theorem dJ9_max_7cf53_6 : decode cJ9_max_7cf53 6 = .ok (.goto 4, 3) := dget zdJ9_max_7cf53_0 4 rfl
theorem dJ9_max_7cf53_9 : decode cJ9_max_7cf53 9 = .ok (.iload_n 1, 1) := dget zdJ9_max_7cf53_0 5 rfl
theorem dJ9_max_7cf53_10 : decode cJ9_max_7cf53 10 = .ok (.ireturn, 1) := dget zdJ9_max_7cf53_0 6 rfl
theorem zdJ9_min_7cf53_0 : dchk cJ9_min_7cf53 [(0, .iload_n 0, 1), (1, .iload_n 1, 1), (2, .if_icmp .gt 7, 3), (5, .iload_n 0, 1), (6, .goto 4, 3), (9, .iload_n 1, 1), (10, .ireturn, 1)] = true := by decide +kernel
theorem dJ9_min_7cf53_0 : decode cJ9_min_7cf53 0 = .ok (.iload_n 0, 1) := dget zdJ9_min_7cf53_0 0 rfl
theorem dJ9_min_7cf53_1 : decode cJ9_min_7cf53 1 = .ok (.iload_n 1, 1) := dget zdJ9_min_7cf53_0 1 rfl
theorem dJ9_min_7cf53_2 : decode cJ9_min_7cf53 2 = .ok (.if_icmp .gt 7, 3) := dget zdJ9_min_7cf53_0 2 rfl
theorem dJ9_min_7cf53_5 : decode cJ9_min_7cf53 5 = .ok (.iload_n 0, 1) := dget zdJ9_min_7cf53_0 3 rfl
theorem dJ9_min_7cf53_6 : decode cJ9_min_7cf53 6 = .ok (.goto 4, 3) := dget zdJ9_min_7cf53_0 4 rfl
theorem dJ9_min_7cf53_9 : decode cJ9_min_7cf53 9 = .ok (.iload_n 1, 1) := dget zdJ9_min_7cf53_0 5 rfl
theorem dJ9_min_7cf53_10 : decode cJ9_min_7cf53 10 = .ok (.ireturn, 1) := dget zdJ9_min_7cf53_0 6 rfl
theorem zdJ0_length_8abf5_0 : dchk cJ0_length_8abf5 [(0, .aload_n 0, 1), (1, .getfield 9, 3), (4, .arraylength, 1), (5, .aload_n 0, 1), (6, .invokevirtual 335, 3), (9, .ishr, 1), (10, .ireturn, 1)] = true := by decide +kernel
theorem dJ0_length_8abf5_0 : decode cJ0_length_8abf5 0 = .ok (.aload_n 0, 1) := dget zdJ0_length_8abf5_0 0 rfl
theorem dJ0_length_8abf5_1 : decode cJ0_length_8abf5 1 = .ok (.getfield 9, 3) := dget zdJ0_length_8abf5_0 1 rfl
theorem dJ0_length_8abf5_4 : decode cJ0_length_8abf5 4 = .ok (.arraylength, 1) := dget zdJ0_length_8abf5_0 2 rfl
theorem dJ0_length_8abf5_5 : decode cJ0_length_8abf5 5 = .ok (.aload_n 0, 1) := dget zdJ0_length_8abf5_0 3 rfl
theorem dJ0_length_8abf5_6 : decode cJ0_length_8abf5 6 = .ok (.invokevirtual 335, 3) := dget zdJ0_length_8abf5_0 4 rfl
theorem dJ0_length_8abf5_9 : decode cJ0_length_8abf5 9 = .ok (.ishr, 1) := dget zdJ0_length_8abf5_0 5 rfl
theorem dJ0_length_8abf5_10 : decode cJ0_length_8abf5 10 = .ok (.ireturn, 1) := dget zdJ0_length_8abf5_0 6 rfl
theorem zdJ0_charAt_5068e_0 : dchk cJ0_charAt_5068e [(0, .aload_n 0, 1), (1, .invokevirtual 492, 3), (4, .ifCond .eq 12, 3), (7, .aload_n 0, 1), (8, .getfield 9, 3), (11, .iload_n 1, 1), (12, .invokestatic 495, 3), (15, .ireturn, 1), (16, .aload_n 0, 1), (17, .getfield 9, 3), (20, .iload_n 1, 1), (21, .invokestatic 498, 3), (24, .ireturn, 1)] = true := by decide +kernel
theorem dJ0_charAt_5068e_0 : decode cJ0_charAt_5068e 0 = .ok (.aload_n 0, 1) := dget zdJ0_charAt_5068e_0 0 rfl
theorem dJ0_charAt_5068e_1 : decode cJ0_charAt_5068e 1 = .ok (.invokevirtual 492, 3) := dget zdJ0_charAt_5068e_0 1 rfl
theorem dJ0_charAt_5068e_4 : decode cJ0_charAt_5068e 4 = .ok (.ifCond .eq 12, 3) := dget zdJ0_charAt_5068e_0 2 rfl
theorem dJ0_charAt_5068e_7 : decode cJ0_charAt_5068e 7 = .ok (.aload_n 0, 1) := dget zdJ0_charAt_5068e_0 3 rfl
theorem dJ0_charAt_5068e_8 : decode cJ0_charAt_5068e 8 = .ok (.getfield 9, 3) := dget zdJ0_charAt_5068e_0 4 rfl
theorem dJ0_charAt_5068e_11 : decode cJ0_charAt_5068e 11 = .ok (.iload_n 1, 1) := dget zdJ0_charAt_5068e_0 5 rfl
theorem dJ0_charAt_5068e_12 : decode cJ0_charAt_5068e 12 = .ok (.invokestatic 495, 3) := dget zdJ0_charAt_5068e_0 6 rfl
theorem dJ0_charAt_5068e_15 : decode cJ0_charAt_5068e 15 = .ok (.ireturn, 1) := dget zdJ0_charAt_5068e_0 7 rfl
theorem dJ0_charAt_5068e_16 : decode cJ0_charAt_5068e 16 = .ok (.aload_n 0, 1) := dget zdJ0_charAt_5068e_0 8 rfl
theorem dJ0_charAt_5068e_17 : decode cJ0_charAt_5068e 17 = .ok (.getfield 9, 3) := dget zdJ0_charAt_5068e_0 9 rfl
theorem dJ0_charAt_5068e_20 : decode cJ0_charAt_5068e 20 = .ok (.iload_n 1, 1) := dget zdJ0_charAt_5068e_0 10 rfl
theorem dJ0_charAt_5068e_21 : decode cJ0_charAt_5068e 21 = .ok (.invokestatic 498, 3) := dget zdJ0_charAt_5068e_0 11 rfl
theorem dJ0_charAt_5068e_24 : decode cJ0_charAt_5068e 24 = .ok (.ireturn, 1) := dget zdJ0_charAt_5068e_0 12 rfl
theorem zdJ0_coder_7d493_0 : dchk cJ0_coder_7d493 [(0, .getstatic 38, 3), (3, .ifCond .eq 10, 3), (6, .aload_n 0, 1), (7, .getfield 15, 3), (10, .goto 4, 3), (13, .iconst 1, 1), (14, .ireturn, 1)] = true := by decide +kernel
theorem dJ0_coder_7d493_0 : decode cJ0_coder_7d493 0 = .ok (.getstatic 38, 3) := dget zdJ0_coder_7d493_0 0 rfl
theorem dJ0_coder_7d493_3 : decode cJ0_coder_7d493 3 = .ok (.ifCond .eq 10, 3) := dget zdJ0_coder_7d493_0 1 rfl
theorem dJ0_coder_7d493_6 : decode cJ0_coder_7d493 6 = .ok (.aload_n 0, 1) := dget zdJ0_coder_7d493_0 2 rfl
theorem dJ0_coder_7d493_7 : decode cJ0_coder_7d493 7 = .ok (.getfield 15, 3) := dget zdJ0_coder_7d493_0 3 rfl
theorem dJ0_coder_7d493_10 : decode cJ0_coder_7d493 10 = .ok (.goto 4, 3) := dget zdJ0_coder_7d493_0 4 rfl
theorem dJ0_coder_7d493_13 : decode cJ0_coder_7d493 13 = .ok (.iconst 1, 1) := dget zdJ0_coder_7d493_0 5 rfl
theorem dJ0_coder_7d493_14 : decode cJ0_coder_7d493 14 = .ok (.ireturn, 1) := dget zdJ0_coder_7d493_0 6 rfl
theorem zdJ0_isLatin1_aae02_0 : dchk cJ0_isLatin1_aae02 [(0, .getstatic 38, 3), (3, .ifCond .eq 14, 3), (6, .aload_n 0, 1), (7, .getfield 15, 3), (10, .ifCond .ne 7, 3), (13, .iconst 1, 1), (14, .goto 4, 3), (17, .iconst 0, 1), (18, .ireturn, 1)] = true := by decide +kernel
theorem dJ0_isLatin1_aae02_0 : decode cJ0_isLatin1_aae02 0 = .ok (.getstatic 38, 3) := dget zdJ0_isLatin1_aae02_0 0 rfl
theorem dJ0_isLatin1_aae02_3 : decode cJ0_isLatin1_aae02 3 = .ok (.ifCond .eq 14, 3) := dget zdJ0_isLatin1_aae02_0 1 rfl
theorem dJ0_isLatin1_aae02_6 : decode cJ0_isLatin1_aae02 6 = .ok (.aload_n 0, 1) := dget zdJ0_isLatin1_aae02_0 2 rfl
theorem dJ0_isLatin1_aae02_7 : decode cJ0_isLatin1_aae02 7 = .ok (.getfield 15, 3) := dget zdJ0_isLatin1_aae02_0 3 rfl
theorem dJ0_isLatin1_aae02_10 : decode cJ0_isLatin1_aae02 10 = .ok (.ifCond .ne 7, 3) := dget zdJ0_isLatin1_aae02_0 4 rfl
theorem dJ0_isLatin1_aae02_13 : decode cJ0_isLatin1_aae02 13 = .ok (.iconst 1, 1) := dget zdJ0_isLatin1_aae02_0 5 rfl
theorem dJ0_isLatin1_aae02_14 : decode cJ0_isLatin1_aae02 14 = .ok (.goto 4, 3) := dget zdJ0_isLatin1_aae02_0 6 rfl
theorem dJ0_isLatin1_aae02_17 : decode cJ0_isLatin1_aae02 17 = .ok (.iconst 0, 1) := dget zdJ0_isLatin1_aae02_0 7 rfl
theorem dJ0_isLatin1_aae02_18 : decode cJ0_isLatin1_aae02 18 = .ok (.ireturn, 1) := dget zdJ0_isLatin1_aae02_0 8 rfl
theorem zdJ0_checkIndex_df160_0 : dchk cJ0_checkIndex_df160 [(0, .iload_n 0, 1), (1, .iload_n 1, 1), (2, .getstatic 1053, 3), (5, .invokestatic 1059, 3), (8, .pop, 1), (9, .return_, 1)] = true := by decide +kernel
theorem dJ0_checkIndex_df160_0 : decode cJ0_checkIndex_df160 0 = .ok (.iload_n 0, 1) := dget zdJ0_checkIndex_df160_0 0 rfl
theorem dJ0_checkIndex_df160_1 : decode cJ0_checkIndex_df160 1 = .ok (.iload_n 1, 1) := dget zdJ0_checkIndex_df160_0 1 rfl
theorem dJ0_checkIndex_df160_2 : decode cJ0_checkIndex_df160 2 = .ok (.getstatic 1053, 3) := dget zdJ0_checkIndex_df160_0 2 rfl
theorem dJ0_checkIndex_df160_5 : decode cJ0_checkIndex_df160 5 = .ok (.invokestatic 1059, 3) := dget zdJ0_checkIndex_df160_0 3 rfl
theorem dJ0_checkIndex_df160_8 : decode cJ0_checkIndex_df160 8 = .ok (.pop, 1) := dget zdJ0_checkIndex_df160_0 4 rfl
theorem dJ0_checkIndex_df160_9 : decode cJ0_checkIndex_df160 9 = .ok (.return_, 1) := dget zdJ0_checkIndex_df160_0 5 rfl
theorem zdJ1_charAt_3b067_0 : dchk cJ1_charAt_3b067 [(0, .iload_n 1, 1), (1, .aload_n 0, 1), (2, .arraylength, 1), (3, .invokestatic 9, 3), (6, .aload_n 0, 1), (7, .iload_n 1, 1), (8, .baload, 1), (9, .sipush 255, 3), (12, .iand, 1), (13, .i2c, 1), (14, .ireturn, 1)] = true := by decide +kernel
theorem dJ1_charAt_3b067_0 : decode cJ1_charAt_3b067 0 = .ok (.iload_n 1, 1) := dget zdJ1_charAt_3b067_0 0 rfl
theorem dJ1_charAt_3b067_1 : decode cJ1_charAt_3b067 1 = .ok (.aload_n 0, 1) := dget zdJ1_charAt_3b067_0 1 rfl
theorem dJ1_charAt_3b067_2 : decode cJ1_charAt_3b067 2 = .ok (.arraylength, 1) := dget zdJ1_charAt_3b067_0 2 rfl
theorem dJ1_charAt_3b067_3 : decode cJ1_charAt_3b067 3 = .ok (.invokestatic 9, 3) := dget zdJ1_charAt_3b067_0 3 rfl
theorem dJ1_charAt_3b067_6 : decode cJ1_charAt_3b067 6 = .ok (.aload_n 0, 1) := dget zdJ1_charAt_3b067_0 4 rfl
theorem dJ1_charAt_3b067_7 : decode cJ1_charAt_3b067 7 = .ok (.iload_n 1, 1) := dget zdJ1_charAt_3b067_0 5 rfl
theorem dJ1_charAt_3b067_8 : decode cJ1_charAt_3b067 8 = .ok (.baload, 1) := dget zdJ1_charAt_3b067_0 6 rfl
theorem dJ1_charAt_3b067_9 : decode cJ1_charAt_3b067 9 = .ok (.sipush 255, 3) := dget zdJ1_charAt_3b067_0 7 rfl
theorem dJ1_charAt_3b067_12 : decode cJ1_charAt_3b067 12 = .ok (.iand, 1) := dget zdJ1_charAt_3b067_0 8 rfl
theorem dJ1_charAt_3b067_13 : decode cJ1_charAt_3b067 13 = .ok (.i2c, 1) := dget zdJ1_charAt_3b067_0 9 rfl
theorem dJ1_charAt_3b067_14 : decode cJ1_charAt_3b067 14 = .ok (.ireturn, 1) := dget zdJ1_charAt_3b067_0 10 rfl
theorem zdJ2_getChar_3b067_0 : dchk cJ2_getChar_3b067 [(0, .getstatic 44, 3), (3, .ifCond .ne 25, 3), (6, .iload_n 1, 1), (7, .ifCond .lt 11, 3), (10, .iload_n 1, 1), (11, .aload_n 0, 1), (12, .invokestatic 48, 3), (15, .if_icmp .lt 13, 3), (18, .new 52, 3), (21, .dup, 1), (22, .ldc 54, 2), (24, .invokespecial 56, 3), (27, .athrow, 1), (28, .iload_n 1, 1), (29, .iconst 1, 1), (30, .ishl, 1), (31, .istore_n 1, 1), (32, .aload_n 0, 1), (33, .iload_n 1, 1), (34, .iinc 1 1, 3), (37, .baload, 1), (38, .sipush 255, 3), (41, .iand, 1), (42, .getstatic 59, 3), (45, .ishl, 1), (46, .aload_n 0, 1), (47, .iload_n 1, 1), (48, .baload, 1), (49, .sipush 255, 3), (52, .iand, 1), (53, .getstatic 63, 3), (56, .ishl, 1), (57, .ior, 1), (58, .i2c, 1), (59, .ireturn, 1)] = true := by decide +kernel
theorem dJ2_getChar_3b067_0 : decode cJ2_getChar_3b067 0 = .ok (.getstatic 44, 3) := dget zdJ2_getChar_3b067_0 0 rfl
theorem dJ2_getChar_3b067_3 : decode cJ2_getChar_3b067 3 = .ok (.ifCond .ne 25, 3) := dget zdJ2_getChar_3b067_0 1 rfl
theorem dJ2_getChar_3b067_6 : decode cJ2_getChar_3b067 6 = .ok (.iload_n 1, 1) := dget zdJ2_getChar_3b067_0 2 rfl
theorem dJ2_getChar_3b067_7 : decode cJ2_getChar_3b067 7 = .ok (.ifCond .lt 11, 3) := dget zdJ2_getChar_3b067_0 3 rfl
theorem dJ2_getChar_3b067_10 : decode cJ2_getChar_3b067 10 = .ok (.iload_n 1, 1) := dget zdJ2_getChar_3b067_0 4 rfl
theorem dJ2_getChar_3b067_11 : decode cJ2_getChar_3b067 11 = .ok (.aload_n 0, 1) := dget zdJ2_getChar_3b067_0 5 rfl
theorem dJ2_getChar_3b067_12 : decode cJ2_getChar_3b067 12 = .ok (.invokestatic 48, 3) := dget zdJ2_getChar_3b067_0 6 rfl
theorem dJ2_getChar_3b067_15 : decode cJ2_getChar_3b067 15 = .ok (.if_icmp .lt 13, 3) := dget zdJ2_getChar_3b067_0 7 rfl
theorem dJ2_getChar_3b067_18 : decode cJ2_getChar_3b067 18 = .ok (.new 52, 3) := dget zdJ2_getChar_3b067_0 8 rfl
theorem dJ2_getChar_3b067_21 : decode cJ2_getChar_3b067 21 = .ok (.dup, 1) := dget zdJ2_getChar_3b067_0 9 rfl
theorem dJ2_getChar_3b067_22 : decode cJ2_getChar_3b067 22 = .ok (.ldc 54, 2) := dget zdJ2_getChar_3b067_0 10 rfl
theorem dJ2_getChar_3b067_24 : decode cJ2_getChar_3b067 24 = .ok (.invokespecial 56, 3) := dget zdJ2_getChar_3b067_0 11 rfl
theorem dJ2_getChar_3b067_27 : decode cJ2_getChar_3b067 27 = .ok (.athrow, 1) := dget zdJ2_getChar_3b067_0 12 rfl
theorem dJ2_getChar_3b067_28 : decode cJ2_getChar_3b067 28 = .ok (.iload_n 1, 1) := dget zdJ2_getChar_3b067_0 13 rfl
theorem dJ2_getChar_3b067_29 : decode cJ2_getChar_3b067 29 = .ok (.iconst 1, 1) := dget zdJ2_getChar_3b067_0 14 rfl
theorem dJ2_getChar_3b067_30 : decode cJ2_getChar_3b067 30 = .ok (.ishl, 1) := dget zdJ2_getChar_3b067_0 15 rfl
theorem dJ2_getChar_3b067_31 : decode cJ2_getChar_3b067 31 = .ok (.istore_n 1, 1) := dget zdJ2_getChar_3b067_0 16 rfl
theorem dJ2_getChar_3b067_32 : decode cJ2_getChar_3b067 32 = .ok (.aload_n 0, 1) := dget zdJ2_getChar_3b067_0 17 rfl
theorem dJ2_getChar_3b067_33 : decode cJ2_getChar_3b067 33 = .ok (.iload_n 1, 1) := dget zdJ2_getChar_3b067_0 18 rfl
theorem dJ2_getChar_3b067_34 : decode cJ2_getChar_3b067 34 = .ok (.iinc 1 1, 3) := dget zdJ2_getChar_3b067_0 19 rfl
theorem dJ2_getChar_3b067_37 : decode cJ2_getChar_3b067 37 = .ok (.baload, 1) := dget zdJ2_getChar_3b067_0 20 rfl
theorem dJ2_getChar_3b067_38 : decode cJ2_getChar_3b067 38 = .ok (.sipush 255, 3) := dget zdJ2_getChar_3b067_0 21 rfl
theorem dJ2_getChar_3b067_41 : decode cJ2_getChar_3b067 41 = .ok (.iand, 1) := dget zdJ2_getChar_3b067_0 22 rfl
theorem dJ2_getChar_3b067_42 : decode cJ2_getChar_3b067 42 = .ok (.getstatic 59, 3) := dget zdJ2_getChar_3b067_0 23 rfl
theorem dJ2_getChar_3b067_45 : decode cJ2_getChar_3b067 45 = .ok (.ishl, 1) := dget zdJ2_getChar_3b067_0 24 rfl
theorem dJ2_getChar_3b067_46 : decode cJ2_getChar_3b067 46 = .ok (.aload_n 0, 1) := dget zdJ2_getChar_3b067_0 25 rfl
theorem dJ2_getChar_3b067_47 : decode cJ2_getChar_3b067 47 = .ok (.iload_n 1, 1) := dget zdJ2_getChar_3b067_0 26 rfl
theorem dJ2_getChar_3b067_48 : decode cJ2_getChar_3b067 48 = .ok (.baload, 1) := dget zdJ2_getChar_3b067_0 27 rfl
theorem dJ2_getChar_3b067_49 : decode cJ2_getChar_3b067 49 = .ok (.sipush 255, 3) := dget zdJ2_getChar_3b067_0 28 rfl
theorem dJ2_getChar_3b067_52 : decode cJ2_getChar_3b067 52 = .ok (.iand, 1) := dget zdJ2_getChar_3b067_0 29 rfl
theorem dJ2_getChar_3b067_53 : decode cJ2_getChar_3b067 53 = .ok (.getstatic 63, 3) := dget zdJ2_getChar_3b067_0 30 rfl
theorem dJ2_getChar_3b067_56 : decode cJ2_getChar_3b067 56 = .ok (.ishl, 1) := dget zdJ2_getChar_3b067_0 31 rfl
theorem dJ2_getChar_3b067_57 : decode cJ2_getChar_3b067 57 = .ok (.ior, 1) := dget zdJ2_getChar_3b067_0 32 rfl
theorem dJ2_getChar_3b067_58 : decode cJ2_getChar_3b067 58 = .ok (.i2c, 1) := dget zdJ2_getChar_3b067_0 33 rfl
theorem dJ2_getChar_3b067_59 : decode cJ2_getChar_3b067 59 = .ok (.ireturn, 1) := dget zdJ2_getChar_3b067_0 34 rfl
theorem zdJ2_length_9d52b_0 : dchk cJ2_length_9d52b [(0, .aload_n 0, 1), (1, .arraylength, 1), (2, .iconst 1, 1), (3, .ishr, 1), (4, .ireturn, 1)] = true := by decide +kernel
theorem dJ2_length_9d52b_0 : decode cJ2_length_9d52b 0 = .ok (.aload_n 0, 1) := dget zdJ2_length_9d52b_0 0 rfl
theorem dJ2_length_9d52b_1 : decode cJ2_length_9d52b 1 = .ok (.arraylength, 1) := dget zdJ2_length_9d52b_0 1 rfl
theorem dJ2_length_9d52b_2 : decode cJ2_length_9d52b 2 = .ok (.iconst 1, 1) := dget zdJ2_length_9d52b_0 2 rfl
theorem dJ2_length_9d52b_3 : decode cJ2_length_9d52b 3 = .ok (.ishr, 1) := dget zdJ2_length_9d52b_0 3 rfl
theorem dJ2_length_9d52b_4 : decode cJ2_length_9d52b 4 = .ok (.ireturn, 1) := dget zdJ2_length_9d52b_0 4 rfl
theorem zdJ2_charAt_3b067_0 : dchk cJ2_charAt_3b067 [(0, .iload_n 1, 1), (1, .aload_n 0, 1), (2, .invokestatic 67, 3), (5, .aload_n 0, 1), (6, .iload_n 1, 1), (7, .invokestatic 71, 3), (10, .ireturn, 1)] = true := by decide +kernel
theorem dJ2_charAt_3b067_0 : decode cJ2_charAt_3b067 0 = .ok (.iload_n 1, 1) := dget zdJ2_charAt_3b067_0 0 rfl
theorem dJ2_charAt_3b067_1 : decode cJ2_charAt_3b067 1 = .ok (.aload_n 0, 1) := dget zdJ2_charAt_3b067_0 1 rfl
theorem dJ2_charAt_3b067_2 : decode cJ2_charAt_3b067 2 = .ok (.invokestatic 67, 3) := dget zdJ2_charAt_3b067_0 2 rfl
theorem dJ2_charAt_3b067_5 : decode cJ2_charAt_3b067 5 = .ok (.aload_n 0, 1) := dget zdJ2_charAt_3b067_0 3 rfl
theorem dJ2_charAt_3b067_6 : decode cJ2_charAt_3b067 6 = .ok (.iload_n 1, 1) := dget zdJ2_charAt_3b067_0 4 rfl
theorem dJ2_charAt_3b067_7 : decode cJ2_charAt_3b067 7 = .ok (.invokestatic 71, 3) := dget zdJ2_charAt_3b067_0 5 rfl
theorem dJ2_charAt_3b067_10 : decode cJ2_charAt_3b067 10 = .ok (.ireturn, 1) := dget zdJ2_charAt_3b067_0 6 rfl
theorem zdJ2_checkIndex_2214a_0 : dchk cJ2_checkIndex_2214a [(0, .iload_n 0, 1), (1, .aload_n 1, 1), (2, .invokestatic 48, 3), (5, .invokestatic 414, 3), (8, .return_, 1)] = true := by decide +kernel
theorem dJ2_checkIndex_2214a_0 : decode cJ2_checkIndex_2214a 0 = .ok (.iload_n 0, 1) := dget zdJ2_checkIndex_2214a_0 0 rfl
theorem dJ2_checkIndex_2214a_1 : decode cJ2_checkIndex_2214a 1 = .ok (.aload_n 1, 1) := dget zdJ2_checkIndex_2214a_0 1 rfl
theorem dJ2_checkIndex_2214a_2 : decode cJ2_checkIndex_2214a 2 = .ok (.invokestatic 48, 3) := dget zdJ2_checkIndex_2214a_0 2 rfl
theorem dJ2_checkIndex_2214a_5 : decode cJ2_checkIndex_2214a 5 = .ok (.invokestatic 414, 3) := dget zdJ2_checkIndex_2214a_0 3 rfl
theorem dJ2_checkIndex_2214a_8 : decode cJ2_checkIndex_2214a 8 = .ok (.return_, 1) := dget zdJ2_checkIndex_2214a_0 4 rfl
theorem zdJ3_checkIndex_8e157_0 : dchk cJ3_checkIndex_8e157 [(0, .iload_n 0, 1), (1, .ifCond .lt 8, 3), (4, .iload_n 0, 1), (5, .iload_n 1, 1), (6, .if_icmp .lt 10, 3), (9, .aload_n 2, 1), (10, .iload_n 0, 1), (11, .iload_n 1, 1), (12, .invokestatic 95, 3), (15, .athrow, 1), (16, .iload_n 0, 1), (17, .ireturn, 1)] = true := by decide +kernel
theorem dJ3_checkIndex_8e157_0 : decode cJ3_checkIndex_8e157 0 = .ok (.iload_n 0, 1) := dget zdJ3_checkIndex_8e157_0 0 rfl
theorem dJ3_checkIndex_8e157_1 : decode cJ3_checkIndex_8e157 1 = .ok (.ifCond .lt 8, 3) := dget zdJ3_checkIndex_8e157_0 1 rfl
theorem dJ3_checkIndex_8e157_4 : decode cJ3_checkIndex_8e157 4 = .ok (.iload_n 0, 1) := dget zdJ3_checkIndex_8e157_0 2 rfl
theorem dJ3_checkIndex_8e157_5 : decode cJ3_checkIndex_8e157 5 = .ok (.iload_n 1, 1) := dget zdJ3_checkIndex_8e157_0 3 rfl
theorem dJ3_checkIndex_8e157_6 : decode cJ3_checkIndex_8e157 6 = .ok (.if_icmp .lt 10, 3) := dget zdJ3_checkIndex_8e157_0 4 rfl
theorem dJ3_checkIndex_8e157_9 : decode cJ3_checkIndex_8e157 9 = .ok (.aload_n 2, 1) := dget zdJ3_checkIndex_8e157_0 5 rfl
theorem dJ3_checkIndex_8e157_10 : decode cJ3_checkIndex_8e157 10 = .ok (.iload_n 0, 1) := dget zdJ3_checkIndex_8e157_0 6 rfl
theorem dJ3_checkIndex_8e157_11 : decode cJ3_checkIndex_8e157 11 = .ok (.iload_n 1, 1) := dget zdJ3_checkIndex_8e157_0 7 rfl
theorem dJ3_checkIndex_8e157_12 : decode cJ3_checkIndex_8e157 12 = .ok (.invokestatic 95, 3) := dget zdJ3_checkIndex_8e157_0 8 rfl
theorem dJ3_checkIndex_8e157_15 : decode cJ3_checkIndex_8e157 15 = .ok (.athrow, 1) := dget zdJ3_checkIndex_8e157_0 9 rfl
theorem dJ3_checkIndex_8e157_16 : decode cJ3_checkIndex_8e157 16 = .ok (.iload_n 0, 1) := dget zdJ3_checkIndex_8e157_0 10 rfl
theorem dJ3_checkIndex_8e157_17 : decode cJ3_checkIndex_8e157 17 = .ok (.ireturn, 1) := dget zdJ3_checkIndex_8e157_0 11 rfl
abbrev vwCl : List vw_C := [(RX0, TX0, 5), (RX1, TX1, 3), (RX2, TX2, 4), (RX3, TX3, 4), (RX4, TX4, 2), (RX5, TX5, 3), (RX6, TX6, 4), (RX7, TX7, 2), (RX8, TX8, 10), (RX9, TX9, 27)]
