def RX0 : String := "OverflowRows$Book"
def TX0 : u_T := fun k => match k with
  | 0 => ("OverflowRows$Book", "headMost", "I", false)
  | 1 => ("OverflowRows$Book", "pieceMost", "I", false)
  | 2 => ("OverflowRows$Book", "rows", "I", false)
  | 3 => ("OverflowRows$Book", "pages", "LOverflowRows$Pages;", true)
  | 4 => ("OverflowRows$Book", "all", "[LOverflowRows$Row;", true)
  | _ => ("OverflowRows$Book", "numberOf", "[I", true)
def tyX0 : Nat → FieldType := fun k => match k with
  | 0 => .int
  | 1 => .int
  | 2 => .int
  | 3 => .object "OverflowRows$Pages"
  | 4 => .array (.object "OverflowRows$Row")
  | _ => .array .int
abbrev wsX00 : List Cond := u_ws RX0 TX0 6
theorem nmX0 : ∀ a, a < 6 → ∀ b, b < 6 → a ≠ b → (TX0 a).2.1 ≠ (TX0 b).2.1 := by decide +kernel
theorem tyX0_ok : ∀ k, k < 6 → parseFieldDescriptor (TX0 k).2.2.1 = some (tyX0 k) := by decide +kernel
abbrev cX0_init : ByteArray := prog_2_method_1_code
def yX0_init : MethodName := ⟨RX0, "<init>", "()V"⟩
abbrev cX0_copyFrom : ByteArray := prog_2_method_2_code
def yX0_copyFrom : MethodName := ⟨RX0, "copyFrom", "(LOverflowRows$Book;)V"⟩
abbrev cX0_rowOf : ByteArray := prog_2_method_3_code
def yX0_rowOf : MethodName := ⟨RX0, "rowOf", "(I)LOverflowRows$Row;"⟩
abbrev cX0_layRow : ByteArray := prog_2_method_4_code
def yX0_layRow : MethodName := ⟨RX0, "layRow", "(II)LOverflowRows$Row;"⟩
abbrev cX0_addRow : ByteArray := prog_2_method_5_code
def yX0_addRow : MethodName := ⟨RX0, "addRow", "(I)LOverflowRows$Row;"⟩
abbrev cX0_layNew : ByteArray := prog_2_method_6_code
def yX0_layNew : MethodName := ⟨RX0, "layNew", "(LOverflowRows$Row;)Z"⟩
abbrev cX0_layAgain : ByteArray := prog_2_method_7_code
def yX0_layAgain : MethodName := ⟨RX0, "layAgain", "(LOverflowRows$Row;)Z"⟩
abbrev cX0_layHeadAgain : ByteArray := prog_2_method_8_code
def yX0_layHeadAgain : MethodName := ⟨RX0, "layHeadAgain", "(LOverflowRows$Row;)I"⟩
abbrev cX0_layPieces : ByteArray := prog_2_method_9_code
def yX0_layPieces : MethodName := ⟨RX0, "layPieces", "(LOverflowRows$Row;)Z"⟩
abbrev cX0_liftPieces : ByteArray := prog_2_method_10_code
def yX0_liftPieces : MethodName := ⟨RX0, "liftPieces", "(LOverflowRows$Row;)V"⟩
abbrev cX0_headLetters : ByteArray := prog_2_method_11_code
def yX0_headLetters : MethodName := ⟨RX0, "headLetters", "(LOverflowRows$Row;)I"⟩
abbrev cX0_headCells : ByteArray := prog_2_method_12_code
def yX0_headCells : MethodName := ⟨RX0, "headCells", "(LOverflowRows$Row;)I"⟩
abbrev cX0_removeRow : ByteArray := prog_2_method_13_code
def yX0_removeRow : MethodName := ⟨RX0, "removeRow", "(LOverflowRows$Row;)V"⟩
abbrev cX0_packAll : ByteArray := prog_2_method_14_code
def yX0_packAll : MethodName := ⟨RX0, "packAll", "()Z"⟩
abbrev cX0_cellsOf : ByteArray := prog_2_method_15_code
def yX0_cellsOf : MethodName := ⟨RX0, "cellsOf", "(LOverflowRows$Row;)I"⟩
abbrev cX0_costInAll : ByteArray := prog_2_method_16_code
def yX0_costInAll : MethodName := ⟨RX0, "costInAll", "()I"⟩
abbrev cX0_greatestCost : ByteArray := prog_2_method_17_code
def yX0_greatestCost : MethodName := ⟨RX0, "greatestCost", "()I"⟩
abbrev cX0_lettersInAll : ByteArray := prog_2_method_18_code
def yX0_lettersInAll : MethodName := ⟨RX0, "lettersInAll", "()I"⟩
def RX1 : String := "OverflowRows$History"
def TX1 : u_T := fun k => match k with
  | 0 => ("OverflowRows$History", "states", "[LOverflowRows$Book;", true)
  | 1 => ("OverflowRows$History", "held", "I", false)
  | _ => ("OverflowRows$History", "oldest", "I", false)
def tyX1 : Nat → FieldType := fun k => match k with
  | 0 => .array (.object "OverflowRows$Book")
  | 1 => .int
  | _ => .int
abbrev wsX10 : List Cond := u_ws RX1 TX1 3
theorem nmX1 : ∀ a, a < 3 → ∀ b, b < 3 → a ≠ b → (TX1 a).2.1 ≠ (TX1 b).2.1 := by decide +kernel
theorem tyX1_ok : ∀ k, k < 3 → parseFieldDescriptor (TX1 k).2.2.1 = some (tyX1 k) := by decide +kernel
abbrev cX1_init : ByteArray := prog_3_method_1_code
def yX1_init : MethodName := ⟨RX1, "<init>", "()V"⟩
abbrev cX1_record : ByteArray := prog_3_method_2_code
def yX1_record : MethodName := ⟨RX1, "record", "(LOverflowRows$Book;)V"⟩
def RX2 : String := "OverflowRows$Pad"
def TX2 : u_T := fun k => match k with
  | 0 => ("OverflowRows$Pad", "signs", "[I", true)
  | 1 => ("OverflowRows$Pad", "length", "I", false)
  | 2 => ("OverflowRows$Pad", "rows", "I", false)
  | 3 => ("OverflowRows$Pad", "keyOf", "[I", true)
  | 4 => ("OverflowRows$Pad", "textOf", "[I", true)
  | 5 => ("OverflowRows$Pad", "lettersOf", "[I", true)
  | 6 => ("OverflowRows$Pad", "inText", "Z", false)
  | 7 => ("OverflowRows$Pad", "digits", "I", false)
  | _ => ("OverflowRows$Pad", "number", "I", false)
def tyX2 : Nat → FieldType := fun k => match k with
  | 0 => .array .int
  | 1 => .int
  | 2 => .int
  | 3 => .array .int
  | 4 => .array .int
  | 5 => .array .int
  | 6 => .boolean
  | 7 => .int
  | _ => .int
abbrev wsX20 : List Cond := u_ws RX2 TX2 9
theorem nmX2 : ∀ a, a < 9 → ∀ b, b < 9 → a ≠ b → (TX2 a).2.1 ≠ (TX2 b).2.1 := by decide +kernel
theorem tyX2_ok : ∀ k, k < 9 → parseFieldDescriptor (TX2 k).2.2.1 = some (tyX2 k) := by decide +kernel
abbrev cX2_init : ByteArray := prog_4_method_1_code
def yX2_init : MethodName := ⟨RX2, "<init>", "()V"⟩
abbrev cX2_read : ByteArray := prog_4_method_2_code
def yX2_read : MethodName := ⟨RX2, "read", "()I"⟩
abbrev cX2_awaitKey : ByteArray := prog_4_method_3_code
def yX2_awaitKey : MethodName := ⟨RX2, "awaitKey", "()V"⟩
abbrev cX2_readInKey : ByteArray := prog_4_method_4_code
def yX2_readInKey : MethodName := ⟨RX2, "readInKey", "(II)Z"⟩
abbrev cX2_startText : ByteArray := prog_4_method_5_code
def yX2_startText : MethodName := ⟨RX2, "startText", "(I)Z"⟩
abbrev cX2_readInText : ByteArray := prog_4_method_6_code
def yX2_readInText : MethodName := ⟨RX2, "readInText", "(I)Z"⟩
def RX3 : String := "OverflowRows$Pages"
def TX3 : u_T := fun k => match k with
  | 0 => ("OverflowRows$Pages", "kind", "[I", true)
  | 1 => ("OverflowRows$Pages", "owner", "[I", true)
  | 2 => ("OverflowRows$Pages", "cells", "[I", true)
  | _ => ("OverflowRows$Pages", "free", "[I", true)
def tyX3 : Nat → FieldType := fun k => match k with
  | 0 => .array .int
  | 1 => .array .int
  | 2 => .array .int
  | _ => .array .int
abbrev wsX30 : List Cond := u_ws RX3 TX3 4
theorem nmX3 : ∀ a, a < 4 → ∀ b, b < 4 → a ≠ b → (TX3 a).2.1 ≠ (TX3 b).2.1 := by decide +kernel
theorem tyX3_ok : ∀ k, k < 4 → parseFieldDescriptor (TX3 k).2.2.1 = some (tyX3 k) := by decide +kernel
abbrev cX3_init : ByteArray := prog_5_method_1_code
def yX3_init : MethodName := ⟨RX3, "<init>", "()V"⟩
abbrev cX3_copyFrom : ByteArray := prog_5_method_2_code
def yX3_copyFrom : MethodName := ⟨RX3, "copyFrom", "(LOverflowRows$Pages;)V"⟩
abbrev cX3_clear : ByteArray := prog_5_method_3_code
def yX3_clear : MethodName := ⟨RX3, "clear", "()V"⟩
abbrev cX3_hasRoom : ByteArray := prog_5_method_4_code
def yX3_hasRoom : MethodName := ⟨RX3, "hasRoom", "(II)Z"⟩
abbrev cX3_occupy : ByteArray := prog_5_method_5_code
def yX3_occupy : MethodName := ⟨RX3, "occupy", "(IIII)V"⟩
abbrev cX3_vacate : ByteArray := prog_5_method_6_code
def yX3_vacate : MethodName := ⟨RX3, "vacate", "(I)V"⟩
abbrev cX3_place : ByteArray := prog_5_method_7_code
def yX3_place : MethodName := ⟨RX3, "place", "(III)I"⟩
abbrev cX3_lowestGap : ByteArray := prog_5_method_8_code
def yX3_lowestGap : MethodName := ⟨RX3, "lowestGap", "(I)I"⟩
abbrev cX3_slotsOf : ByteArray := prog_5_method_9_code
def yX3_slotsOf : MethodName := ⟨RX3, "slotsOf", "(I)I"⟩
abbrev cX3_thingsOn : ByteArray := prog_5_method_10_code
def yX3_thingsOn : MethodName := ⟨RX3, "thingsOn", "(II)I"⟩
abbrev cX3_thingsInAll : ByteArray := prog_5_method_11_code
def yX3_thingsInAll : MethodName := ⟨RX3, "thingsInAll", "(I)I"⟩
abbrev cX3_pagesInUse : ByteArray := prog_5_method_12_code
def yX3_pagesInUse : MethodName := ⟨RX3, "pagesInUse", "()I"⟩
abbrev cX3_freeInAll : ByteArray := prog_5_method_13_code
def yX3_freeInAll : MethodName := ⟨RX3, "freeInAll", "()I"⟩
def RX7 : String := "OverflowRows$Row"
def TX7 : u_T := fun k => match k with
  | 0 => ("OverflowRows$Row", "key", "I", false)
  | 1 => ("OverflowRows$Row", "letters", "I", false)
  | 2 => ("OverflowRows$Row", "home", "I", false)
  | 3 => ("OverflowRows$Row", "head", "I", false)
  | 4 => ("OverflowRows$Row", "pieces", "I", false)
  | 5 => ("OverflowRows$Row", "pieceSpots", "[I", true)
  | _ => ("OverflowRows$Row", "text", "[I", true)
def tyX7 : Nat → FieldType := fun k => match k with
  | 0 => .int
  | 1 => .int
  | 2 => .int
  | 3 => .int
  | 4 => .int
  | 5 => .array .int
  | _ => .array .int
abbrev wsX70 : List Cond := u_ws RX7 TX7 7
theorem nmX7 : ∀ a, a < 7 → ∀ b, b < 7 → a ≠ b → (TX7 a).2.1 ≠ (TX7 b).2.1 := by decide +kernel
theorem tyX7_ok : ∀ k, k < 7 → parseFieldDescriptor (TX7 k).2.2.1 = some (tyX7 k) := by decide +kernel
abbrev cX7_init : ByteArray := prog_6_method_1_code
def yX7_init : MethodName := ⟨RX7, "<init>", "()V"⟩
abbrev cX7_copyFrom : ByteArray := prog_6_method_2_code
def yX7_copyFrom : MethodName := ⟨RX7, "copyFrom", "(LOverflowRows$Row;)V"⟩
abbrev cX7_hasMoved : ByteArray := prog_6_method_3_code
def yX7_hasMoved : MethodName := ⟨RX7, "hasMoved", "()Z"⟩
abbrev cX7_cost : ByteArray := prog_6_method_4_code
def yX7_cost : MethodName := ⟨RX7, "cost", "()I"⟩
def RX4 : String := "OverflowRows"
def TX4 : u_T := fun k => match k with
  | 0 => ("OverflowRows", "pad", "LOverflowRows$Pad;", true)
  | 1 => ("OverflowRows", "history", "LOverflowRows$History;", true)
  | 2 => ("OverflowRows", "saved", "[LOverflowRows$Book;", true)
  | 3 => ("OverflowRows", "now", "LOverflowRows$Book;", false)
  | _ => ("OverflowRows", "trial", "LOverflowRows$Book;", false)
def tyX4 : Nat → FieldType := fun k => match k with
  | 0 => .object "OverflowRows$Pad"
  | 1 => .object "OverflowRows$History"
  | 2 => .array (.object "OverflowRows$Book")
  | 3 => .object "OverflowRows$Book"
  | _ => .object "OverflowRows$Book"
abbrev wsX40 : List Cond := u_ws RX4 TX4 5
theorem nmX4 : ∀ a, a < 5 → ∀ b, b < 5 → a ≠ b → (TX4 a).2.1 ≠ (TX4 b).2.1 := by decide +kernel
theorem tyX4_ok : ∀ k, k < 5 → parseFieldDescriptor (TX4 k).2.2.1 = some (tyX4 k) := by decide +kernel
abbrev cX4_init : ByteArray := prog_1_method_1_code
def yX4_init : MethodName := ⟨RX4, "<init>", "()V"⟩
abbrev cX4_set : ByteArray := prog_1_method_2_code
def yX4_set : MethodName := ⟨RX4, "set", "(II)I"⟩
abbrev cX4_setHead : ByteArray := prog_1_method_3_code
def yX4_setHead : MethodName := ⟨RX4, "setHead", "(I)I"⟩
abbrev cX4_setPiece : ByteArray := prog_1_method_4_code
def yX4_setPiece : MethodName := ⟨RX4, "setPiece", "(I)I"⟩
abbrev cX4_write : ByteArray := prog_1_method_5_code
def yX4_write : MethodName := ⟨RX4, "write", "()I"⟩
abbrev cX4_writePadRow : ByteArray := prog_1_method_6_code
def yX4_writePadRow : MethodName := ⟨RX4, "writePadRow", "(I)Z"⟩
abbrev cX4_append : ByteArray := prog_1_method_7_code
def yX4_append : MethodName := ⟨RX4, "append", "(II)I"⟩
abbrev cX4_delete : ByteArray := prog_1_method_8_code
def yX4_delete : MethodName := ⟨RX4, "delete", "(I)I"⟩
abbrev cX4_pack : ByteArray := prog_1_method_9_code
def yX4_pack : MethodName := ⟨RX4, "pack", "()I"⟩
abbrev cX4_tryPacking : ByteArray := prog_1_method_10_code
def yX4_tryPacking : MethodName := ⟨RX4, "tryPacking", "(I)Z"⟩
abbrev cX4_takeTrial : ByteArray := prog_1_method_11_code
def yX4_takeTrial : MethodName := ⟨RX4, "takeTrial", "()V"⟩
abbrev cX4_row : ByteArray := prog_1_method_12_code
def yX4_row : MethodName := ⟨RX4, "row", "(II)I"⟩
abbrev cX4_letter : ByteArray := prog_1_method_13_code
def yX4_letter : MethodName := ⟨RX4, "letter", "(II)I"⟩
abbrev cX4_piece : ByteArray := prog_1_method_14_code
def yX4_piece : MethodName := ⟨RX4, "piece", "(III)I"⟩
abbrev cX4_page : ByteArray := prog_1_method_15_code
def yX4_page : MethodName := ⟨RX4, "page", "(II)I"⟩
abbrev cX4_slot : ByteArray := prog_1_method_16_code
def yX4_slot : MethodName := ⟨RX4, "slot", "(III)I"⟩
abbrev cX4_count : ByteArray := prog_1_method_17_code
def yX4_count : MethodName := ⟨RX4, "count", "(I)I"⟩
abbrev cX4_key : ByteArray := prog_1_method_18_code
def yX4_key : MethodName := ⟨RX4, "key", "(I)I"⟩
abbrev cX4_ifPacked : ByteArray := prog_1_method_19_code
def yX4_ifPacked : MethodName := ⟨RX4, "ifPacked", "(II)I"⟩
abbrev cX4_bestHead : ByteArray := prog_1_method_20_code
def yX4_bestHead : MethodName := ⟨RX4, "bestHead", "()I"⟩
abbrev cX4_most : ByteArray := prog_1_method_21_code
def yX4_most : MethodName := ⟨RX4, "most", "(I)I"⟩
abbrev cX4_put : ByteArray := prog_1_method_22_code
def yX4_put : MethodName := ⟨RX4, "put", "(J)I"⟩
abbrev cX4_signsIn : ByteArray := prog_1_method_23_code
def yX4_signsIn : MethodName := ⟨RX4, "signsIn", "(J)I"⟩
abbrev cX4_signOf : ByteArray := prog_1_method_24_code
def yX4_signOf : MethodName := ⟨RX4, "signOf", "(JI)I"⟩
abbrev cX4_wipe : ByteArray := prog_1_method_25_code
def yX4_wipe : MethodName := ⟨RX4, "wipe", "()I"⟩
abbrev cX4_at : ByteArray := prog_1_method_30_code
def yX4_at : MethodName := ⟨RX4, "at", "([II)I"⟩
abbrev cX4_store : ByteArray := prog_1_method_31_code
def yX4_store : MethodName := ⟨RX4, "store", "([III)V"⟩
def RX5 : String := "OverflowRowsModel"
def TX5 : u_T := fun k => match k with
  | _ => ("", "", "", false)
def tyX5 : Nat → FieldType := fun k => match k with
  | _ => .int
abbrev wsX50 : List Cond := u_ws RX5 TX5 0
theorem nmX5 : ∀ a, a < 0 → ∀ b, b < 0 → a ≠ b → (TX5 a).2.1 ≠ (TX5 b).2.1 := by decide +kernel
theorem tyX5_ok : ∀ k, k < 0 → parseFieldDescriptor (TX5 k).2.2.1 = some (tyX5 k) := by decide +kernel
def RJ9 : String := "java/lang/Math"
def TJ9 : u_T := fun k => match k with
  | _ => ("", "", "", false)
def tyJ9 : Nat → FieldType := fun k => match k with
  | _ => .int
abbrev wsJ90 : List Cond := u_ws RJ9 TJ9 0
theorem nmJ9 : ∀ a, a < 0 → ∀ b, b < 0 → a ≠ b → (TJ9 a).2.1 ≠ (TJ9 b).2.1 := by decide +kernel
theorem tyJ9_ok : ∀ k, k < 0 → parseFieldDescriptor (TJ9 k).2.2.1 = some (tyJ9 k) := by decide +kernel
abbrev cJ9_floorMod_7cf53 : ByteArray := prog_9_method_50_code
def yJ9_floorMod_7cf53 : MethodName := ⟨RJ9, "floorMod", "(II)I"⟩
abbrev cJ9_max_7cf53 : ByteArray := prog_9_method_65_code
def yJ9_max_7cf53 : MethodName := ⟨RJ9, "max", "(II)I"⟩
abbrev cJ9_min_7cf53 : ByteArray := prog_9_method_69_code
def yJ9_min_7cf53 : MethodName := ⟨RJ9, "min", "(II)I"⟩
def RJ10 : String := "java/lang/System"
def TJ10 : u_T := fun k => match k with
  | _ => ("", "", "", false)
def tyJ10 : Nat → FieldType := fun k => match k with
  | _ => .int
abbrev wsJ100 : List Cond := u_ws RJ10 TJ10 0
theorem nmJ10 : ∀ a, a < 0 → ∀ b, b < 0 → a ≠ b → (TJ10 a).2.1 ≠ (TJ10 b).2.1 := by decide +kernel
theorem tyJ10_ok : ∀ k, k < 0 → parseFieldDescriptor (TJ10 k).2.2.1 = some (tyJ10 k) := by decide +kernel
def RJ7 : String := "java/util/Arrays"
def TJ7 : u_T := fun k => match k with
  | _ => ("", "", "", false)
def tyJ7 : Nat → FieldType := fun k => match k with
  | _ => .int
abbrev wsJ70 : List Cond := u_ws RJ7 TJ7 0
theorem nmJ7 : ∀ a, a < 0 → ∀ b, b < 0 → a ≠ b → (TJ7 a).2.1 ≠ (TJ7 b).2.1 := by decide +kernel
theorem tyJ7_ok : ∀ k, k < 0 → parseFieldDescriptor (TJ7 k).2.2.1 = some (tyJ7 k) := by decide +kernel
abbrev cJ7_fill_53178 : ByteArray := prog_11_method_103_code
def yJ7_fill_53178 : MethodName := ⟨RJ7, "fill", "([II)V"⟩
def RL : String := "OverflowRowsLaw"
abbrev cL_cell : ByteArray := method_2_code
def yL_cell : MethodName := ⟨RL, "cell", "([II)I"⟩
abbrev cL_low : ByteArray := method_3_code
def yL_low : MethodName := ⟨RL, "low", "(II)I"⟩
abbrev cL_cells : ByteArray := method_4_code
def yL_cells : MethodName := ⟨RL, "cells", "(I)I"⟩
abbrev cL_free : ByteArray := method_5_code
def yL_free : MethodName := ⟨RL, "free", "(I[II)I"⟩
abbrev cL_at : ByteArray := method_6_code
def yL_at : MethodName := ⟨RL, "at", "(I[II)I"⟩
abbrev cL_find : ByteArray := method_7_code
def yL_find : MethodName := ⟨RL, "find", "(III[II)I"⟩
abbrev cL_add : ByteArray := method_8_code
def yL_add : MethodName := ⟨RL, "add", "(IIIII[I[I)V"⟩
abbrev cL_drop : ByteArray := method_9_code
def yL_drop : MethodName := ⟨RL, "drop", "(I[I[I)V"⟩
abbrev cL_room : ByteArray := method_10_code
def yL_room : MethodName := ⟨RL, "room", "(I[II)I"⟩
abbrev cL_write : ByteArray := method_11_code
def yL_write : MethodName := ⟨RL, "write", "(IIZ[I[I[I)Z"⟩
abbrev cL_rowOf : ByteArray := method_12_code
def yL_rowOf : MethodName := ⟨RL, "rowOf", "(I[I)I"⟩
abbrev cL_pack : ByteArray := method_13_code
def yL_pack : MethodName := ⟨RL, "pack", "([I[I[I)Z"⟩
abbrev cL_pieces : ByteArray := method_14_code
def yL_pieces : MethodName := ⟨RL, "pieces", "(I[II)I"⟩
abbrev cL_cost : ByteArray := method_15_code
def yL_cost : MethodName := ⟨RL, "cost", "(I[I[II)I"⟩
abbrev cL_costs : ByteArray := method_16_code
def yL_costs : MethodName := ⟨RL, "costs", "([I[II)I"⟩
abbrev cL_kinds : ByteArray := method_17_code
def yL_kinds : MethodName := ⟨RL, "kinds", "(I[II)I"⟩
abbrev cL_letter : ByteArray := method_18_code
def yL_letter : MethodName := ⟨RL, "letter", "(II[J)I"⟩
abbrev cL_same : ByteArray := method_19_code
def yL_same : MethodName := ⟨RL, "same", "(LOverflowRows;[I[I[I[J)Z"⟩
abbrev cL_copy : ByteArray := method_20_code
def yL_copy : MethodName := ⟨RL, "copy", "([I[I[I[I[I[I)V"⟩
abbrev cL_would : ByteArray := method_21_code
def yL_would : MethodName := ⟨RL, "would", "(LOverflowRows;I[I[I[I[I[I[I)Z"⟩
abbrev cL_law : ByteArray := code
def yL_law : MethodName := ⟨RL, "law", "([I)Z"⟩
theorem dX0_init_0 : decode cX0_init 0 = .ok (.aload_n 0, 1) := by decide +kernel
theorem dX0_init_1 : decode cX0_init 1 = .ok (.invokespecial 3, 3) := by decide +kernel
theorem dX0_init_4 : decode cX0_init 4 = .ok (.aload_n 0, 1) := by decide +kernel
theorem dX0_init_5 : decode cX0_init 5 = .ok (.bipush 6, 2) := by decide +kernel
theorem dX0_init_7 : decode cX0_init 7 = .ok (.putfield 9, 3) := by decide +kernel
theorem dX0_init_10 : decode cX0_init 10 = .ok (.aload_n 0, 1) := by decide +kernel
theorem dX0_init_11 : decode cX0_init 11 = .ok (.bipush 8, 2) := by decide +kernel
theorem dX0_init_13 : decode cX0_init 13 = .ok (.putfield 15, 3) := by decide +kernel
theorem dX0_init_16 : decode cX0_init 16 = .ok (.aload_n 0, 1) := by decide +kernel
theorem dX0_init_17 : decode cX0_init 17 = .ok (.iconst 0, 1) := by decide +kernel
theorem dX0_init_18 : decode cX0_init 18 = .ok (.putfield 18, 3) := by decide +kernel
theorem dX0_init_21 : decode cX0_init 21 = .ok (.aload_n 0, 1) := by decide +kernel
theorem dX0_init_22 : decode cX0_init 22 = .ok (.new 21, 3) := by decide +kernel
theorem dX0_init_25 : decode cX0_init 25 = .ok (.dup, 1) := by decide +kernel
theorem dX0_init_26 : decode cX0_init 26 = .ok (.invokespecial 23, 3) := by decide +kernel
theorem dX0_init_29 : decode cX0_init 29 = .ok (.putfield 24, 3) := by decide +kernel
theorem dX0_init_32 : decode cX0_init 32 = .ok (.aload_n 0, 1) := by decide +kernel
theorem dX0_init_33 : decode cX0_init 33 = .ok (.bipush 30, 2) := by decide +kernel
theorem dX0_init_35 : decode cX0_init 35 = .ok (.anewarray 28, 3) := by decide +kernel
theorem dX0_init_38 : decode cX0_init 38 = .ok (.putfield 30, 3) := by decide +kernel
theorem dX0_init_41 : decode cX0_init 41 = .ok (.aload_n 0, 1) := by decide +kernel
theorem dX0_init_42 : decode cX0_init 42 = .ok (.bipush 100, 2) := by decide +kernel
theorem dX0_init_44 : decode cX0_init 44 = .ok (.newarray .int, 2) := by decide +kernel
theorem dX0_init_46 : decode cX0_init 46 = .ok (.putfield 34, 3) := by decide +kernel
theorem dX0_init_49 : decode cX0_init 49 = .ok (.iconst 0, 1) := by decide +kernel
theorem dX0_init_50 : decode cX0_init 50 = .ok (.istore_n 1, 1) := by decide +kernel
theorem dX0_init_51 : decode cX0_init 51 = .ok (.iload_n 1, 1) := by decide +kernel
theorem dX0_init_52 : decode cX0_init 52 = .ok (.bipush 30, 2) := by decide +kernel
theorem dX0_init_54 : decode cX0_init 54 = .ok (.if_icmp .ge 22, 3) := by decide +kernel
theorem dX0_init_57 : decode cX0_init 57 = .ok (.aload_n 0, 1) := by decide +kernel
theorem dX0_init_58 : decode cX0_init 58 = .ok (.getfield 30, 3) := by decide +kernel
theorem dX0_init_61 : decode cX0_init 61 = .ok (.iload_n 1, 1) := by decide +kernel
theorem dX0_init_62 : decode cX0_init 62 = .ok (.new 28, 3) := by decide +kernel
theorem dX0_init_65 : decode cX0_init 65 = .ok (.dup, 1) := by decide +kernel
theorem dX0_init_66 : decode cX0_init 66 = .ok (.invokespecial 38, 3) := by decide +kernel
theorem dX0_init_69 : decode cX0_init 69 = .ok (.aastore, 1) := by decide +kernel
theorem dX0_init_70 : decode cX0_init 70 = .ok (.iinc 1 1, 3) := by decide +kernel
theorem dX0_init_73 : decode cX0_init 73 = .ok (.goto (-22), 3) := by decide +kernel
theorem dX0_init_76 : decode cX0_init 76 = .ok (.aload_n 0, 1) := by decide +kernel
theorem dX0_init_77 : decode cX0_init 77 = .ok (.getfield 34, 3) := by decide +kernel
theorem dX0_init_80 : decode cX0_init 80 = .ok (.iconst (-1), 1) := by decide +kernel
theorem dX0_init_81 : decode cX0_init 81 = .ok (.invokestatic 39, 3) := by decide +kernel
theorem dX0_init_84 : decode cX0_init 84 = .ok (.return_, 1) := by decide +kernel
theorem dX0_copyFrom_0 : decode cX0_copyFrom 0 = .ok (.aload_n 0, 1) := by decide +kernel
theorem dX0_copyFrom_1 : decode cX0_copyFrom 1 = .ok (.aload_n 1, 1) := by decide +kernel
theorem dX0_copyFrom_2 : decode cX0_copyFrom 2 = .ok (.getfield 9, 3) := by decide +kernel
theorem dX0_copyFrom_5 : decode cX0_copyFrom 5 = .ok (.putfield 9, 3) := by decide +kernel
theorem dX0_copyFrom_8 : decode cX0_copyFrom 8 = .ok (.aload_n 0, 1) := by decide +kernel
theorem dX0_copyFrom_9 : decode cX0_copyFrom 9 = .ok (.aload_n 1, 1) := by decide +kernel
theorem dX0_copyFrom_10 : decode cX0_copyFrom 10 = .ok (.getfield 15, 3) := by decide +kernel
theorem dX0_copyFrom_13 : decode cX0_copyFrom 13 = .ok (.putfield 15, 3) := by decide +kernel
theorem dX0_copyFrom_16 : decode cX0_copyFrom 16 = .ok (.aload_n 0, 1) := by decide +kernel
theorem dX0_copyFrom_17 : decode cX0_copyFrom 17 = .ok (.aload_n 1, 1) := by decide +kernel
theorem dX0_copyFrom_18 : decode cX0_copyFrom 18 = .ok (.getfield 18, 3) := by decide +kernel
theorem dX0_copyFrom_21 : decode cX0_copyFrom 21 = .ok (.putfield 18, 3) := by decide +kernel
theorem dX0_copyFrom_24 : decode cX0_copyFrom 24 = .ok (.aload_n 0, 1) := by decide +kernel
theorem dX0_copyFrom_25 : decode cX0_copyFrom 25 = .ok (.getfield 24, 3) := by decide +kernel
theorem dX0_copyFrom_28 : decode cX0_copyFrom 28 = .ok (.aload_n 1, 1) := by decide +kernel
theorem dX0_copyFrom_29 : decode cX0_copyFrom 29 = .ok (.getfield 24, 3) := by decide +kernel
theorem dX0_copyFrom_32 : decode cX0_copyFrom 32 = .ok (.invokevirtual 45, 3) := by decide +kernel
theorem dX0_copyFrom_35 : decode cX0_copyFrom 35 = .ok (.iconst 0, 1) := by decide +kernel
theorem dX0_copyFrom_36 : decode cX0_copyFrom 36 = .ok (.istore_n 2, 1) := by decide +kernel
theorem dX0_copyFrom_37 : decode cX0_copyFrom 37 = .ok (.iload_n 2, 1) := by decide +kernel
theorem dX0_copyFrom_38 : decode cX0_copyFrom 38 = .ok (.bipush 30, 2) := by decide +kernel
theorem dX0_copyFrom_40 : decode cX0_copyFrom 40 = .ok (.if_icmp .ge 39, 3) := by decide +kernel
theorem dX0_copyFrom_43 : decode cX0_copyFrom 43 = .ok (.aload_n 0, 1) := by decide +kernel
theorem dX0_copyFrom_44 : decode cX0_copyFrom 44 = .ok (.getfield 30, 3) := by decide +kernel
theorem dX0_copyFrom_47 : decode cX0_copyFrom 47 = .ok (.iload_n 2, 1) := by decide +kernel
theorem dX0_copyFrom_48 : decode cX0_copyFrom 48 = .ok (.aaload, 1) := by decide +kernel
theorem dX0_copyFrom_49 : decode cX0_copyFrom 49 = .ok (.astore_n 3, 1) := by decide +kernel
theorem dX0_copyFrom_50 : decode cX0_copyFrom 50 = .ok (.aload_n 1, 1) := by decide +kernel
theorem dX0_copyFrom_51 : decode cX0_copyFrom 51 = .ok (.getfield 30, 3) := by decide +kernel
theorem dX0_copyFrom_54 : decode cX0_copyFrom 54 = .ok (.iload_n 2, 1) := by decide +kernel
theorem dX0_copyFrom_55 : decode cX0_copyFrom 55 = .ok (.aaload, 1) := by decide +kernel
theorem dX0_copyFrom_56 : decode cX0_copyFrom 56 = .ok (.astore 4, 2) := by decide +kernel
theorem dX0_copyFrom_58 : decode cX0_copyFrom 58 = .ok (.aload_n 3, 1) := by decide +kernel
theorem dX0_copyFrom_59 : decode cX0_copyFrom 59 = .ok (.ifnull 14, 3) := by decide +kernel
theorem dX0_copyFrom_62 : decode cX0_copyFrom 62 = .ok (.aload 4, 2) := by decide +kernel
theorem dX0_copyFrom_64 : decode cX0_copyFrom 64 = .ok (.ifnull 9, 3) := by decide +kernel
theorem dX0_copyFrom_67 : decode cX0_copyFrom 67 = .ok (.aload_n 3, 1) := by decide +kernel
theorem dX0_copyFrom_68 : decode cX0_copyFrom 68 = .ok (.aload 4, 2) := by decide +kernel
theorem dX0_copyFrom_70 : decode cX0_copyFrom 70 = .ok (.invokevirtual 49, 3) := by decide +kernel
theorem dX0_copyFrom_73 : decode cX0_copyFrom 73 = .ok (.iinc 2 1, 3) := by decide +kernel
theorem dX0_copyFrom_76 : decode cX0_copyFrom 76 = .ok (.goto (-39), 3) := by decide +kernel
theorem dX0_copyFrom_79 : decode cX0_copyFrom 79 = .ok (.aload_n 1, 1) := by decide +kernel
theorem dX0_copyFrom_80 : decode cX0_copyFrom 80 = .ok (.getfield 34, 3) := by decide +kernel
theorem dX0_copyFrom_83 : decode cX0_copyFrom 83 = .ok (.iconst 0, 1) := by decide +kernel
theorem dX0_copyFrom_84 : decode cX0_copyFrom 84 = .ok (.aload_n 0, 1) := by decide +kernel
theorem dX0_copyFrom_85 : decode cX0_copyFrom 85 = .ok (.getfield 34, 3) := by decide +kernel
theorem dX0_copyFrom_88 : decode cX0_copyFrom 88 = .ok (.iconst 0, 1) := by decide +kernel
theorem dX0_copyFrom_89 : decode cX0_copyFrom 89 = .ok (.bipush 100, 2) := by decide +kernel
theorem dX0_copyFrom_91 : decode cX0_copyFrom 91 = .ok (.invokestatic 52, 3) := by decide +kernel
theorem dX0_copyFrom_94 : decode cX0_copyFrom 94 = .ok (.return_, 1) := by decide +kernel
theorem dX0_rowOf_0 : decode cX0_rowOf 0 = .ok (.aload_n 0, 1) := by decide +kernel
theorem dX0_rowOf_1 : decode cX0_rowOf 1 = .ok (.getfield 34, 3) := by decide +kernel
theorem dX0_rowOf_4 : decode cX0_rowOf 4 = .ok (.iload_n 1, 1) := by decide +kernel
theorem dX0_rowOf_5 : decode cX0_rowOf 5 = .ok (.invokestatic 58, 3) := by decide +kernel
theorem dX0_rowOf_8 : decode cX0_rowOf 8 = .ok (.istore_n 2, 1) := by decide +kernel
theorem dX0_rowOf_9 : decode cX0_rowOf 9 = .ok (.iload_n 2, 1) := by decide +kernel
theorem dX0_rowOf_10 : decode cX0_rowOf 10 = .ok (.ifCond .lt 9, 3) := by decide +kernel
theorem dX0_rowOf_13 : decode cX0_rowOf 13 = .ok (.iload_n 2, 1) := by decide +kernel
theorem dX0_rowOf_14 : decode cX0_rowOf 14 = .ok (.bipush 30, 2) := by decide +kernel
theorem dX0_rowOf_16 : decode cX0_rowOf 16 = .ok (.if_icmp .lt 7, 3) := by decide +kernel
theorem dX0_rowOf_19 : decode cX0_rowOf 19 = .ok (.aconst_null, 1) := by decide +kernel
theorem dX0_rowOf_20 : decode cX0_rowOf 20 = .ok (.goto 9, 3) := by decide +kernel
theorem dX0_rowOf_23 : decode cX0_rowOf 23 = .ok (.aload_n 0, 1) := by decide +kernel
theorem dX0_rowOf_24 : decode cX0_rowOf 24 = .ok (.getfield 30, 3) := by decide +kernel
theorem dX0_rowOf_27 : decode cX0_rowOf 27 = .ok (.iload_n 2, 1) := by decide +kernel
theorem dX0_rowOf_28 : decode cX0_rowOf 28 = .ok (.aaload, 1) := by decide +kernel
theorem dX0_rowOf_29 : decode cX0_rowOf 29 = .ok (.areturn, 1) := by decide +kernel
theorem dX0_layRow_0 : decode cX0_layRow 0 = .ok (.aload_n 0, 1) := by decide +kernel
theorem dX0_layRow_1 : decode cX0_layRow 1 = .ok (.iload_n 1, 1) := by decide +kernel
theorem dX0_layRow_2 : decode cX0_layRow 2 = .ok (.invokevirtual 62, 3) := by decide +kernel
theorem dX0_layRow_5 : decode cX0_layRow 5 = .ok (.astore_n 3, 1) := by decide +kernel
theorem dX0_layRow_6 : decode cX0_layRow 6 = .ok (.aload_n 3, 1) := by decide +kernel
theorem dX0_layRow_7 : decode cX0_layRow 7 = .ok (.ifnull 22, 3) := by decide +kernel
theorem dX0_layRow_10 : decode cX0_layRow 10 = .ok (.aload_n 3, 1) := by decide +kernel
theorem dX0_layRow_11 : decode cX0_layRow 11 = .ok (.iload_n 2, 1) := by decide +kernel
theorem dX0_layRow_12 : decode cX0_layRow 12 = .ok (.putfield 66, 3) := by decide +kernel
theorem dX0_layRow_15 : decode cX0_layRow 15 = .ok (.aload_n 0, 1) := by decide +kernel
theorem dX0_layRow_16 : decode cX0_layRow 16 = .ok (.aload_n 3, 1) := by decide +kernel
theorem dX0_layRow_17 : decode cX0_layRow 17 = .ok (.invokevirtual 69, 3) := by decide +kernel
theorem dX0_layRow_20 : decode cX0_layRow 20 = .ok (.ifCond .eq 7, 3) := by decide +kernel
theorem dX0_layRow_23 : decode cX0_layRow 23 = .ok (.aload_n 3, 1) := by decide +kernel
theorem dX0_layRow_24 : decode cX0_layRow 24 = .ok (.goto 4, 3) := by decide +kernel
theorem dX0_layRow_27 : decode cX0_layRow 27 = .ok (.aconst_null, 1) := by decide +kernel
theorem dX0_layRow_28 : decode cX0_layRow 28 = .ok (.areturn, 1) := by decide +kernel
theorem dX0_layRow_29 : decode cX0_layRow 29 = .ok (.aload_n 0, 1) := by decide +kernel
theorem dX0_layRow_30 : decode cX0_layRow 30 = .ok (.iload_n 1, 1) := by decide +kernel
theorem dX0_layRow_31 : decode cX0_layRow 31 = .ok (.invokevirtual 73, 3) := by decide +kernel
theorem dX0_layRow_34 : decode cX0_layRow 34 = .ok (.astore 4, 2) := by decide +kernel
theorem dX0_layRow_36 : decode cX0_layRow 36 = .ok (.aload 4, 2) := by decide +kernel
theorem dX0_layRow_38 : decode cX0_layRow 38 = .ok (.ifnonnull 5, 3) := by decide +kernel
theorem dX0_layRow_41 : decode cX0_layRow 41 = .ok (.aconst_null, 1) := by decide +kernel
theorem dX0_layRow_42 : decode cX0_layRow 42 = .ok (.areturn, 1) := by decide +kernel
theorem dX0_layRow_43 : decode cX0_layRow 43 = .ok (.aload 4, 2) := by decide +kernel
theorem dX0_layRow_45 : decode cX0_layRow 45 = .ok (.iload_n 2, 1) := by decide +kernel
theorem dX0_layRow_46 : decode cX0_layRow 46 = .ok (.putfield 66, 3) := by decide +kernel
theorem dX0_layRow_49 : decode cX0_layRow 49 = .ok (.aload_n 0, 1) := by decide +kernel
theorem dX0_layRow_50 : decode cX0_layRow 50 = .ok (.aload 4, 2) := by decide +kernel
theorem dX0_layRow_52 : decode cX0_layRow 52 = .ok (.invokevirtual 76, 3) := by decide +kernel
theorem dX0_layRow_55 : decode cX0_layRow 55 = .ok (.ifCond .eq 8, 3) := by decide +kernel
theorem dX0_layRow_58 : decode cX0_layRow 58 = .ok (.aload 4, 2) := by decide +kernel
theorem dX0_layRow_60 : decode cX0_layRow 60 = .ok (.goto 4, 3) := by decide +kernel
theorem dX0_layRow_63 : decode cX0_layRow 63 = .ok (.aconst_null, 1) := by decide +kernel
theorem dX0_layRow_64 : decode cX0_layRow 64 = .ok (.areturn, 1) := by decide +kernel
theorem dX0_addRow_0 : decode cX0_addRow 0 = .ok (.iconst 0, 1) := by decide +kernel
theorem dX0_addRow_1 : decode cX0_addRow 1 = .ok (.istore_n 2, 1) := by decide +kernel
theorem dX0_addRow_2 : decode cX0_addRow 2 = .ok (.iload_n 2, 1) := by decide +kernel
theorem dX0_addRow_3 : decode cX0_addRow 3 = .ok (.bipush 30, 2) := by decide +kernel
theorem dX0_addRow_5 : decode cX0_addRow 5 = .ok (.if_icmp .ge 54, 3) := by decide +kernel
theorem dX0_addRow_8 : decode cX0_addRow 8 = .ok (.aload_n 0, 1) := by decide +kernel
theorem dX0_addRow_9 : decode cX0_addRow 9 = .ok (.getfield 30, 3) := by decide +kernel
theorem dX0_addRow_12 : decode cX0_addRow 12 = .ok (.iload_n 2, 1) := by decide +kernel
theorem dX0_addRow_13 : decode cX0_addRow 13 = .ok (.aaload, 1) := by decide +kernel
theorem dX0_addRow_14 : decode cX0_addRow 14 = .ok (.astore_n 3, 1) := by decide +kernel
theorem dX0_addRow_15 : decode cX0_addRow 15 = .ok (.aload_n 3, 1) := by decide +kernel
theorem dX0_addRow_16 : decode cX0_addRow 16 = .ok (.ifnull 37, 3) := by decide +kernel
theorem dX0_addRow_19 : decode cX0_addRow 19 = .ok (.aload_n 3, 1) := by decide +kernel
theorem dX0_addRow_20 : decode cX0_addRow 20 = .ok (.getfield 79, 3) := by decide +kernel
theorem dX0_addRow_23 : decode cX0_addRow 23 = .ok (.iconst (-1), 1) := by decide +kernel
theorem dX0_addRow_24 : decode cX0_addRow 24 = .ok (.if_icmp .ne 29, 3) := by decide +kernel
theorem dX0_addRow_27 : decode cX0_addRow 27 = .ok (.aload_n 3, 1) := by decide +kernel
theorem dX0_addRow_28 : decode cX0_addRow 28 = .ok (.iload_n 1, 1) := by decide +kernel
theorem dX0_addRow_29 : decode cX0_addRow 29 = .ok (.putfield 79, 3) := by decide +kernel
theorem dX0_addRow_32 : decode cX0_addRow 32 = .ok (.aload_n 0, 1) := by decide +kernel
theorem dX0_addRow_33 : decode cX0_addRow 33 = .ok (.getfield 34, 3) := by decide +kernel
theorem dX0_addRow_36 : decode cX0_addRow 36 = .ok (.iload_n 1, 1) := by decide +kernel
theorem dX0_addRow_37 : decode cX0_addRow 37 = .ok (.iload_n 2, 1) := by decide +kernel
theorem dX0_addRow_38 : decode cX0_addRow 38 = .ok (.invokestatic 82, 3) := by decide +kernel
theorem dX0_addRow_41 : decode cX0_addRow 41 = .ok (.aload_n 0, 1) := by decide +kernel
theorem dX0_addRow_42 : decode cX0_addRow 42 = .ok (.dup, 1) := by decide +kernel
theorem dX0_addRow_43 : decode cX0_addRow 43 = .ok (.getfield 18, 3) := by decide +kernel
theorem dX0_addRow_46 : decode cX0_addRow 46 = .ok (.iconst 1, 1) := by decide +kernel
theorem dX0_addRow_47 : decode cX0_addRow 47 = .ok (.iadd, 1) := by decide +kernel
theorem dX0_addRow_48 : decode cX0_addRow 48 = .ok (.putfield 18, 3) := by decide +kernel
theorem dX0_addRow_51 : decode cX0_addRow 51 = .ok (.aload_n 3, 1) := by decide +kernel
theorem dX0_addRow_52 : decode cX0_addRow 52 = .ok (.areturn, 1) := by decide +kernel
theorem dX0_addRow_53 : decode cX0_addRow 53 = .ok (.iinc 2 1, 3) := by decide +kernel
theorem dX0_addRow_56 : decode cX0_addRow 56 = .ok (.goto (-54), 3) := by decide +kernel
theorem dX0_addRow_59 : decode cX0_addRow 59 = .ok (.aconst_null, 1) := by decide +kernel
theorem dX0_addRow_60 : decode cX0_addRow 60 = .ok (.areturn, 1) := by decide +kernel
theorem dX0_layNew_0 : decode cX0_layNew 0 = .ok (.aload_n 1, 1) := by decide +kernel
theorem dX0_layNew_1 : decode cX0_layNew 1 = .ok (.aload_n 0, 1) := by decide +kernel
theorem dX0_layNew_2 : decode cX0_layNew 2 = .ok (.getfield 24, 3) := by decide +kernel
theorem dX0_layNew_5 : decode cX0_layNew 5 = .ok (.iconst 1, 1) := by decide +kernel
theorem dX0_layNew_6 : decode cX0_layNew 6 = .ok (.aload_n 1, 1) := by decide +kernel
theorem dX0_layNew_7 : decode cX0_layNew 7 = .ok (.getfield 79, 3) := by decide +kernel
theorem dX0_layNew_10 : decode cX0_layNew 10 = .ok (.aload_n 0, 1) := by decide +kernel
theorem dX0_layNew_11 : decode cX0_layNew 11 = .ok (.aload_n 1, 1) := by decide +kernel
theorem dX0_layNew_12 : decode cX0_layNew 12 = .ok (.invokevirtual 86, 3) := by decide +kernel
theorem dX0_layNew_15 : decode cX0_layNew 15 = .ok (.invokevirtual 90, 3) := by decide +kernel
theorem dX0_layNew_18 : decode cX0_layNew 18 = .ok (.putfield 94, 3) := by decide +kernel
theorem dX0_layNew_21 : decode cX0_layNew 21 = .ok (.aload_n 1, 1) := by decide +kernel
theorem dX0_layNew_22 : decode cX0_layNew 22 = .ok (.aload_n 1, 1) := by decide +kernel
theorem dX0_layNew_23 : decode cX0_layNew 23 = .ok (.getfield 94, 3) := by decide +kernel
theorem dX0_layNew_26 : decode cX0_layNew 26 = .ok (.putfield 97, 3) := by decide +kernel
theorem dX0_layNew_29 : decode cX0_layNew 29 = .ok (.aload_n 1, 1) := by decide +kernel
theorem dX0_layNew_30 : decode cX0_layNew 30 = .ok (.getfield 97, 3) := by decide +kernel
theorem dX0_layNew_33 : decode cX0_layNew 33 = .ok (.iconst (-1), 1) := by decide +kernel
theorem dX0_layNew_34 : decode cX0_layNew 34 = .ok (.if_icmp .eq 15, 3) := by decide +kernel
theorem dX0_layNew_37 : decode cX0_layNew 37 = .ok (.aload_n 0, 1) := by decide +kernel
theorem dX0_layNew_38 : decode cX0_layNew 38 = .ok (.aload_n 1, 1) := by decide +kernel
theorem dX0_layNew_39 : decode cX0_layNew 39 = .ok (.invokevirtual 100, 3) := by decide +kernel
theorem dX0_layNew_42 : decode cX0_layNew 42 = .ok (.ifCond .eq 7, 3) := by decide +kernel
theorem dX0_layNew_45 : decode cX0_layNew 45 = .ok (.iconst 1, 1) := by decide +kernel
theorem dX0_layNew_46 : decode cX0_layNew 46 = .ok (.goto 4, 3) := by decide +kernel
theorem dX0_layNew_49 : decode cX0_layNew 49 = .ok (.iconst 0, 1) := by decide +kernel
theorem dX0_layNew_50 : decode cX0_layNew 50 = .ok (.ireturn, 1) := by decide +kernel
theorem dX0_layAgain_0 : decode cX0_layAgain 0 = .ok (.aload_n 0, 1) := by decide +kernel
theorem dX0_layAgain_1 : decode cX0_layAgain 1 = .ok (.aload_n 1, 1) := by decide +kernel
theorem dX0_layAgain_2 : decode cX0_layAgain 2 = .ok (.invokevirtual 103, 3) := by decide +kernel
theorem dX0_layAgain_5 : decode cX0_layAgain 5 = .ok (.aload_n 0, 1) := by decide +kernel
theorem dX0_layAgain_6 : decode cX0_layAgain 6 = .ok (.getfield 24, 3) := by decide +kernel
theorem dX0_layAgain_9 : decode cX0_layAgain 9 = .ok (.aload_n 1, 1) := by decide +kernel
theorem dX0_layAgain_10 : decode cX0_layAgain 10 = .ok (.getfield 97, 3) := by decide +kernel
theorem dX0_layAgain_13 : decode cX0_layAgain 13 = .ok (.invokevirtual 106, 3) := by decide +kernel
theorem dX0_layAgain_16 : decode cX0_layAgain 16 = .ok (.aload_n 1, 1) := by decide +kernel
theorem dX0_layAgain_17 : decode cX0_layAgain 17 = .ok (.aload_n 0, 1) := by decide +kernel
theorem dX0_layAgain_18 : decode cX0_layAgain 18 = .ok (.aload_n 1, 1) := by decide +kernel
theorem dX0_layAgain_19 : decode cX0_layAgain 19 = .ok (.invokevirtual 110, 3) := by decide +kernel
theorem dX0_layAgain_22 : decode cX0_layAgain 22 = .ok (.putfield 97, 3) := by decide +kernel
theorem dX0_layAgain_25 : decode cX0_layAgain 25 = .ok (.aload_n 1, 1) := by decide +kernel
theorem dX0_layAgain_26 : decode cX0_layAgain 26 = .ok (.getfield 97, 3) := by decide +kernel
theorem dX0_layAgain_29 : decode cX0_layAgain 29 = .ok (.iconst (-1), 1) := by decide +kernel
theorem dX0_layAgain_30 : decode cX0_layAgain 30 = .ok (.if_icmp .eq 15, 3) := by decide +kernel
theorem dX0_layAgain_33 : decode cX0_layAgain 33 = .ok (.aload_n 0, 1) := by decide +kernel
theorem dX0_layAgain_34 : decode cX0_layAgain 34 = .ok (.aload_n 1, 1) := by decide +kernel
theorem dX0_layAgain_35 : decode cX0_layAgain 35 = .ok (.invokevirtual 100, 3) := by decide +kernel
theorem dX0_layAgain_38 : decode cX0_layAgain 38 = .ok (.ifCond .eq 7, 3) := by decide +kernel
theorem dX0_layAgain_41 : decode cX0_layAgain 41 = .ok (.iconst 1, 1) := by decide +kernel
theorem dX0_layAgain_42 : decode cX0_layAgain 42 = .ok (.goto 4, 3) := by decide +kernel
theorem dX0_layAgain_45 : decode cX0_layAgain 45 = .ok (.iconst 0, 1) := by decide +kernel
theorem dX0_layAgain_46 : decode cX0_layAgain 46 = .ok (.ireturn, 1) := by decide +kernel
theorem dX0_layHeadAgain_0 : decode cX0_layHeadAgain 0 = .ok (.aload_n 0, 1) := by decide +kernel
theorem dX0_layHeadAgain_1 : decode cX0_layHeadAgain 1 = .ok (.aload_n 1, 1) := by decide +kernel
theorem dX0_layHeadAgain_2 : decode cX0_layHeadAgain 2 = .ok (.invokevirtual 86, 3) := by decide +kernel
theorem dX0_layHeadAgain_5 : decode cX0_layHeadAgain 5 = .ok (.istore_n 2, 1) := by decide +kernel
theorem dX0_layHeadAgain_6 : decode cX0_layHeadAgain 6 = .ok (.aload_n 0, 1) := by decide +kernel
theorem dX0_layHeadAgain_7 : decode cX0_layHeadAgain 7 = .ok (.getfield 24, 3) := by decide +kernel
theorem dX0_layHeadAgain_10 : decode cX0_layHeadAgain 10 = .ok (.aload_n 1, 1) := by decide +kernel
theorem dX0_layHeadAgain_11 : decode cX0_layHeadAgain 11 = .ok (.getfield 97, 3) := by decide +kernel
theorem dX0_layHeadAgain_14 : decode cX0_layHeadAgain 14 = .ok (.bipush 40, 2) := by decide +kernel
theorem dX0_layHeadAgain_16 : decode cX0_layHeadAgain 16 = .ok (.idiv, 1) := by decide +kernel
theorem dX0_layHeadAgain_17 : decode cX0_layHeadAgain 17 = .ok (.iload_n 2, 1) := by decide +kernel
theorem dX0_layHeadAgain_18 : decode cX0_layHeadAgain 18 = .ok (.invokevirtual 113, 3) := by decide +kernel
theorem dX0_layHeadAgain_21 : decode cX0_layHeadAgain 21 = .ok (.ifCond .eq 25, 3) := by decide +kernel
theorem dX0_layHeadAgain_24 : decode cX0_layHeadAgain 24 = .ok (.aload_n 0, 1) := by decide +kernel
theorem dX0_layHeadAgain_25 : decode cX0_layHeadAgain 25 = .ok (.getfield 24, 3) := by decide +kernel
theorem dX0_layHeadAgain_28 : decode cX0_layHeadAgain 28 = .ok (.aload_n 1, 1) := by decide +kernel
theorem dX0_layHeadAgain_29 : decode cX0_layHeadAgain 29 = .ok (.getfield 97, 3) := by decide +kernel
theorem dX0_layHeadAgain_32 : decode cX0_layHeadAgain 32 = .ok (.iconst 1, 1) := by decide +kernel
theorem dX0_layHeadAgain_33 : decode cX0_layHeadAgain 33 = .ok (.aload_n 1, 1) := by decide +kernel
theorem dX0_layHeadAgain_34 : decode cX0_layHeadAgain 34 = .ok (.getfield 79, 3) := by decide +kernel
theorem dX0_layHeadAgain_37 : decode cX0_layHeadAgain 37 = .ok (.iload_n 2, 1) := by decide +kernel
theorem dX0_layHeadAgain_38 : decode cX0_layHeadAgain 38 = .ok (.invokevirtual 117, 3) := by decide +kernel
theorem dX0_layHeadAgain_41 : decode cX0_layHeadAgain 41 = .ok (.aload_n 1, 1) := by decide +kernel
theorem dX0_layHeadAgain_42 : decode cX0_layHeadAgain 42 = .ok (.getfield 97, 3) := by decide +kernel
theorem dX0_layHeadAgain_45 : decode cX0_layHeadAgain 45 = .ok (.ireturn, 1) := by decide +kernel
theorem dX0_layHeadAgain_46 : decode cX0_layHeadAgain 46 = .ok (.aload_n 1, 1) := by decide +kernel
theorem dX0_layHeadAgain_47 : decode cX0_layHeadAgain 47 = .ok (.invokevirtual 121, 3) := by decide +kernel
theorem dX0_layHeadAgain_50 : decode cX0_layHeadAgain 50 = .ok (.ifCond .ne 34, 3) := by decide +kernel
theorem dX0_layHeadAgain_53 : decode cX0_layHeadAgain 53 = .ok (.aload_n 0, 1) := by decide +kernel
theorem dX0_layHeadAgain_54 : decode cX0_layHeadAgain 54 = .ok (.getfield 24, 3) := by decide +kernel
theorem dX0_layHeadAgain_57 : decode cX0_layHeadAgain 57 = .ok (.aload_n 1, 1) := by decide +kernel
theorem dX0_layHeadAgain_58 : decode cX0_layHeadAgain 58 = .ok (.getfield 94, 3) := by decide +kernel
theorem dX0_layHeadAgain_61 : decode cX0_layHeadAgain 61 = .ok (.iconst 3, 1) := by decide +kernel
theorem dX0_layHeadAgain_62 : decode cX0_layHeadAgain 62 = .ok (.aload_n 1, 1) := by decide +kernel
theorem dX0_layHeadAgain_63 : decode cX0_layHeadAgain 63 = .ok (.getfield 79, 3) := by decide +kernel
theorem dX0_layHeadAgain_66 : decode cX0_layHeadAgain 66 = .ok (.iconst 1, 1) := by decide +kernel
theorem dX0_layHeadAgain_67 : decode cX0_layHeadAgain 67 = .ok (.invokevirtual 117, 3) := by decide +kernel
theorem dX0_layHeadAgain_70 : decode cX0_layHeadAgain 70 = .ok (.aload_n 0, 1) := by decide +kernel
theorem dX0_layHeadAgain_71 : decode cX0_layHeadAgain 71 = .ok (.getfield 24, 3) := by decide +kernel
theorem dX0_layHeadAgain_74 : decode cX0_layHeadAgain 74 = .ok (.iconst 1, 1) := by decide +kernel
theorem dX0_layHeadAgain_75 : decode cX0_layHeadAgain 75 = .ok (.aload_n 1, 1) := by decide +kernel
theorem dX0_layHeadAgain_76 : decode cX0_layHeadAgain 76 = .ok (.getfield 79, 3) := by decide +kernel
theorem dX0_layHeadAgain_79 : decode cX0_layHeadAgain 79 = .ok (.iload_n 2, 1) := by decide +kernel
theorem dX0_layHeadAgain_80 : decode cX0_layHeadAgain 80 = .ok (.invokevirtual 90, 3) := by decide +kernel
theorem dX0_layHeadAgain_83 : decode cX0_layHeadAgain 83 = .ok (.ireturn, 1) := by decide +kernel
theorem dX0_layHeadAgain_84 : decode cX0_layHeadAgain 84 = .ok (.aload_n 0, 1) := by decide +kernel
theorem dX0_layHeadAgain_85 : decode cX0_layHeadAgain 85 = .ok (.getfield 24, 3) := by decide +kernel
theorem dX0_layHeadAgain_88 : decode cX0_layHeadAgain 88 = .ok (.aload_n 1, 1) := by decide +kernel
theorem dX0_layHeadAgain_89 : decode cX0_layHeadAgain 89 = .ok (.getfield 94, 3) := by decide +kernel
theorem dX0_layHeadAgain_92 : decode cX0_layHeadAgain 92 = .ok (.bipush 40, 2) := by decide +kernel
theorem dX0_layHeadAgain_94 : decode cX0_layHeadAgain 94 = .ok (.idiv, 1) := by decide +kernel
theorem dX0_layHeadAgain_95 : decode cX0_layHeadAgain 95 = .ok (.iload_n 2, 1) := by decide +kernel
theorem dX0_layHeadAgain_96 : decode cX0_layHeadAgain 96 = .ok (.iconst 1, 1) := by decide +kernel
theorem dX0_layHeadAgain_97 : decode cX0_layHeadAgain 97 = .ok (.isub, 1) := by decide +kernel
theorem dX0_layHeadAgain_98 : decode cX0_layHeadAgain 98 = .ok (.invokevirtual 113, 3) := by decide +kernel
theorem dX0_layHeadAgain_101 : decode cX0_layHeadAgain 101 = .ok (.ifCond .eq 36, 3) := by decide +kernel
theorem dX0_layHeadAgain_104 : decode cX0_layHeadAgain 104 = .ok (.aload_n 0, 1) := by decide +kernel
theorem dX0_layHeadAgain_105 : decode cX0_layHeadAgain 105 = .ok (.getfield 24, 3) := by decide +kernel
theorem dX0_layHeadAgain_108 : decode cX0_layHeadAgain 108 = .ok (.aload_n 1, 1) := by decide +kernel
theorem dX0_layHeadAgain_109 : decode cX0_layHeadAgain 109 = .ok (.getfield 94, 3) := by decide +kernel
theorem dX0_layHeadAgain_112 : decode cX0_layHeadAgain 112 = .ok (.invokevirtual 106, 3) := by decide +kernel
theorem dX0_layHeadAgain_115 : decode cX0_layHeadAgain 115 = .ok (.aload_n 0, 1) := by decide +kernel
theorem dX0_layHeadAgain_116 : decode cX0_layHeadAgain 116 = .ok (.getfield 24, 3) := by decide +kernel
theorem dX0_layHeadAgain_119 : decode cX0_layHeadAgain 119 = .ok (.aload_n 1, 1) := by decide +kernel
theorem dX0_layHeadAgain_120 : decode cX0_layHeadAgain 120 = .ok (.getfield 94, 3) := by decide +kernel
theorem dX0_layHeadAgain_123 : decode cX0_layHeadAgain 123 = .ok (.iconst 1, 1) := by decide +kernel
theorem dX0_layHeadAgain_124 : decode cX0_layHeadAgain 124 = .ok (.aload_n 1, 1) := by decide +kernel
theorem dX0_layHeadAgain_125 : decode cX0_layHeadAgain 125 = .ok (.getfield 79, 3) := by decide +kernel
theorem dX0_layHeadAgain_128 : decode cX0_layHeadAgain 128 = .ok (.iload_n 2, 1) := by decide +kernel
theorem dX0_layHeadAgain_129 : decode cX0_layHeadAgain 129 = .ok (.invokevirtual 117, 3) := by decide +kernel
theorem dX0_layHeadAgain_132 : decode cX0_layHeadAgain 132 = .ok (.aload_n 1, 1) := by decide +kernel
theorem dX0_layHeadAgain_133 : decode cX0_layHeadAgain 133 = .ok (.getfield 94, 3) := by decide +kernel
theorem dX0_layHeadAgain_136 : decode cX0_layHeadAgain 136 = .ok (.ireturn, 1) := by decide +kernel
theorem dX0_layHeadAgain_137 : decode cX0_layHeadAgain 137 = .ok (.aload_n 0, 1) := by decide +kernel
theorem dX0_layHeadAgain_138 : decode cX0_layHeadAgain 138 = .ok (.getfield 24, 3) := by decide +kernel
theorem dX0_layHeadAgain_141 : decode cX0_layHeadAgain 141 = .ok (.iconst 1, 1) := by decide +kernel
theorem dX0_layHeadAgain_142 : decode cX0_layHeadAgain 142 = .ok (.aload_n 1, 1) := by decide +kernel
theorem dX0_layHeadAgain_143 : decode cX0_layHeadAgain 143 = .ok (.getfield 79, 3) := by decide +kernel
theorem dX0_layHeadAgain_146 : decode cX0_layHeadAgain 146 = .ok (.iload_n 2, 1) := by decide +kernel
theorem dX0_layHeadAgain_147 : decode cX0_layHeadAgain 147 = .ok (.invokevirtual 90, 3) := by decide +kernel
theorem dX0_layHeadAgain_150 : decode cX0_layHeadAgain 150 = .ok (.ireturn, 1) := by decide +kernel
theorem dX0_layPieces_0 : decode cX0_layPieces 0 = .ok (.aload_n 1, 1) := by decide +kernel
theorem dX0_layPieces_1 : decode cX0_layPieces 1 = .ok (.getfield 66, 3) := by decide +kernel
theorem dX0_layPieces_4 : decode cX0_layPieces 4 = .ok (.aload_n 0, 1) := by decide +kernel
theorem dX0_layPieces_5 : decode cX0_layPieces 5 = .ok (.aload_n 1, 1) := by decide +kernel
theorem dX0_layPieces_6 : decode cX0_layPieces 6 = .ok (.invokevirtual 125, 3) := by decide +kernel
theorem dX0_layPieces_9 : decode cX0_layPieces 9 = .ok (.isub, 1) := by decide +kernel
theorem dX0_layPieces_10 : decode cX0_layPieces 10 = .ok (.istore_n 2, 1) := by decide +kernel
theorem dX0_layPieces_11 : decode cX0_layPieces 11 = .ok (.aload_n 1, 1) := by decide +kernel
theorem dX0_layPieces_12 : decode cX0_layPieces 12 = .ok (.iconst 0, 1) := by decide +kernel
theorem dX0_layPieces_13 : decode cX0_layPieces 13 = .ok (.putfield 128, 3) := by decide +kernel
theorem dX0_layPieces_16 : decode cX0_layPieces 16 = .ok (.iconst 0, 1) := by decide +kernel
theorem dX0_layPieces_17 : decode cX0_layPieces 17 = .ok (.istore_n 3, 1) := by decide +kernel
theorem dX0_layPieces_18 : decode cX0_layPieces 18 = .ok (.iload_n 3, 1) := by decide +kernel
theorem dX0_layPieces_19 : decode cX0_layPieces 19 = .ok (.bipush 40, 2) := by decide +kernel
theorem dX0_layPieces_21 : decode cX0_layPieces 21 = .ok (.if_icmp .ge 74, 3) := by decide +kernel
theorem dX0_layPieces_24 : decode cX0_layPieces 24 = .ok (.iload_n 2, 1) := by decide +kernel
theorem dX0_layPieces_25 : decode cX0_layPieces 25 = .ok (.ifCond .le 70, 3) := by decide +kernel
theorem dX0_layPieces_28 : decode cX0_layPieces 28 = .ok (.iload_n 2, 1) := by decide +kernel
theorem dX0_layPieces_29 : decode cX0_layPieces 29 = .ok (.aload_n 0, 1) := by decide +kernel
theorem dX0_layPieces_30 : decode cX0_layPieces 30 = .ok (.getfield 15, 3) := by decide +kernel
theorem dX0_layPieces_33 : decode cX0_layPieces 33 = .ok (.invokestatic 131, 3) := by decide +kernel
theorem dX0_layPieces_36 : decode cX0_layPieces 36 = .ok (.istore 4, 2) := by decide +kernel
theorem dX0_layPieces_38 : decode cX0_layPieces 38 = .ok (.aload_n 0, 1) := by decide +kernel
theorem dX0_layPieces_39 : decode cX0_layPieces 39 = .ok (.getfield 24, 3) := by decide +kernel
theorem dX0_layPieces_42 : decode cX0_layPieces 42 = .ok (.iconst 2, 1) := by decide +kernel
theorem dX0_layPieces_43 : decode cX0_layPieces 43 = .ok (.aload_n 1, 1) := by decide +kernel
theorem dX0_layPieces_44 : decode cX0_layPieces 44 = .ok (.getfield 79, 3) := by decide +kernel
theorem dX0_layPieces_47 : decode cX0_layPieces 47 = .ok (.iconst 1, 1) := by decide +kernel
theorem dX0_layPieces_48 : decode cX0_layPieces 48 = .ok (.iload 4, 2) := by decide +kernel
theorem dX0_layPieces_50 : decode cX0_layPieces 50 = .ok (.iadd, 1) := by decide +kernel
theorem dX0_layPieces_51 : decode cX0_layPieces 51 = .ok (.invokevirtual 90, 3) := by decide +kernel
theorem dX0_layPieces_54 : decode cX0_layPieces 54 = .ok (.istore 5, 2) := by decide +kernel
theorem dX0_layPieces_56 : decode cX0_layPieces 56 = .ok (.iload 5, 2) := by decide +kernel
theorem dX0_layPieces_58 : decode cX0_layPieces 58 = .ok (.iconst (-1), 1) := by decide +kernel
theorem dX0_layPieces_59 : decode cX0_layPieces 59 = .ok (.if_icmp .ne 5, 3) := by decide +kernel
theorem dX0_layPieces_62 : decode cX0_layPieces 62 = .ok (.iconst 0, 1) := by decide +kernel
theorem dX0_layPieces_63 : decode cX0_layPieces 63 = .ok (.ireturn, 1) := by decide +kernel
theorem dX0_layPieces_64 : decode cX0_layPieces 64 = .ok (.aload_n 1, 1) := by decide +kernel
theorem dX0_layPieces_65 : decode cX0_layPieces 65 = .ok (.getfield 137, 3) := by decide +kernel
theorem dX0_layPieces_68 : decode cX0_layPieces 68 = .ok (.iload_n 3, 1) := by decide +kernel
theorem dX0_layPieces_69 : decode cX0_layPieces 69 = .ok (.iload 5, 2) := by decide +kernel
theorem dX0_layPieces_71 : decode cX0_layPieces 71 = .ok (.invokestatic 82, 3) := by decide +kernel
theorem dX0_layPieces_74 : decode cX0_layPieces 74 = .ok (.aload_n 1, 1) := by decide +kernel
theorem dX0_layPieces_75 : decode cX0_layPieces 75 = .ok (.dup, 1) := by decide +kernel
theorem dX0_layPieces_76 : decode cX0_layPieces 76 = .ok (.getfield 128, 3) := by decide +kernel
theorem dX0_layPieces_79 : decode cX0_layPieces 79 = .ok (.iconst 1, 1) := by decide +kernel
theorem dX0_layPieces_80 : decode cX0_layPieces 80 = .ok (.iadd, 1) := by decide +kernel
theorem dX0_layPieces_81 : decode cX0_layPieces 81 = .ok (.putfield 128, 3) := by decide +kernel
theorem dX0_layPieces_84 : decode cX0_layPieces 84 = .ok (.iload_n 2, 1) := by decide +kernel
theorem dX0_layPieces_85 : decode cX0_layPieces 85 = .ok (.iload 4, 2) := by decide +kernel
theorem dX0_layPieces_87 : decode cX0_layPieces 87 = .ok (.isub, 1) := by decide +kernel
theorem dX0_layPieces_88 : decode cX0_layPieces 88 = .ok (.istore_n 2, 1) := by decide +kernel
theorem dX0_layPieces_89 : decode cX0_layPieces 89 = .ok (.iinc 3 1, 3) := by decide +kernel
theorem dX0_layPieces_92 : decode cX0_layPieces 92 = .ok (.goto (-74), 3) := by decide +kernel
theorem dX0_layPieces_95 : decode cX0_layPieces 95 = .ok (.iconst 1, 1) := by decide +kernel
theorem dX0_layPieces_96 : decode cX0_layPieces 96 = .ok (.ireturn, 1) := by decide +kernel
theorem dX0_liftPieces_0 : decode cX0_liftPieces 0 = .ok (.iconst 0, 1) := by decide +kernel
theorem dX0_liftPieces_1 : decode cX0_liftPieces 1 = .ok (.istore_n 2, 1) := by decide +kernel
theorem dX0_liftPieces_2 : decode cX0_liftPieces 2 = .ok (.iload_n 2, 1) := by decide +kernel
theorem dX0_liftPieces_3 : decode cX0_liftPieces 3 = .ok (.aload_n 1, 1) := by decide +kernel
theorem dX0_liftPieces_4 : decode cX0_liftPieces 4 = .ok (.getfield 128, 3) := by decide +kernel
theorem dX0_liftPieces_7 : decode cX0_liftPieces 7 = .ok (.if_icmp .ge 24, 3) := by decide +kernel
theorem dX0_liftPieces_10 : decode cX0_liftPieces 10 = .ok (.aload_n 0, 1) := by decide +kernel
theorem dX0_liftPieces_11 : decode cX0_liftPieces 11 = .ok (.getfield 24, 3) := by decide +kernel
theorem dX0_liftPieces_14 : decode cX0_liftPieces 14 = .ok (.aload_n 1, 1) := by decide +kernel
theorem dX0_liftPieces_15 : decode cX0_liftPieces 15 = .ok (.getfield 137, 3) := by decide +kernel
theorem dX0_liftPieces_18 : decode cX0_liftPieces 18 = .ok (.iload_n 2, 1) := by decide +kernel
theorem dX0_liftPieces_19 : decode cX0_liftPieces 19 = .ok (.invokestatic 58, 3) := by decide +kernel
theorem dX0_liftPieces_22 : decode cX0_liftPieces 22 = .ok (.invokevirtual 106, 3) := by decide +kernel
theorem dX0_liftPieces_25 : decode cX0_liftPieces 25 = .ok (.iinc 2 1, 3) := by decide +kernel
theorem dX0_liftPieces_28 : decode cX0_liftPieces 28 = .ok (.goto (-26), 3) := by decide +kernel
theorem dX0_liftPieces_31 : decode cX0_liftPieces 31 = .ok (.aload_n 1, 1) := by decide +kernel
theorem dX0_liftPieces_32 : decode cX0_liftPieces 32 = .ok (.iconst 0, 1) := by decide +kernel
theorem dX0_liftPieces_33 : decode cX0_liftPieces 33 = .ok (.putfield 128, 3) := by decide +kernel
theorem dX0_liftPieces_36 : decode cX0_liftPieces 36 = .ok (.return_, 1) := by decide +kernel
theorem dX0_headLetters_0 : decode cX0_headLetters 0 = .ok (.aload_n 1, 1) := by decide +kernel
theorem dX0_headLetters_1 : decode cX0_headLetters 1 = .ok (.getfield 66, 3) := by decide +kernel
theorem dX0_headLetters_4 : decode cX0_headLetters 4 = .ok (.aload_n 0, 1) := by decide +kernel
theorem dX0_headLetters_5 : decode cX0_headLetters 5 = .ok (.getfield 9, 3) := by decide +kernel
theorem dX0_headLetters_8 : decode cX0_headLetters 8 = .ok (.invokestatic 131, 3) := by decide +kernel
theorem dX0_headLetters_11 : decode cX0_headLetters 11 = .ok (.ireturn, 1) := by decide +kernel
theorem dX0_headCells_0 : decode cX0_headCells 0 = .ok (.iconst 2, 1) := by decide +kernel
theorem dX0_headCells_1 : decode cX0_headCells 1 = .ok (.aload_n 0, 1) := by decide +kernel
theorem dX0_headCells_2 : decode cX0_headCells 2 = .ok (.aload_n 1, 1) := by decide +kernel
theorem dX0_headCells_3 : decode cX0_headCells 3 = .ok (.invokevirtual 125, 3) := by decide +kernel
theorem dX0_headCells_6 : decode cX0_headCells 6 = .ok (.iadd, 1) := by decide +kernel
theorem dX0_headCells_7 : decode cX0_headCells 7 = .ok (.ireturn, 1) := by decide +kernel
theorem dX0_removeRow_0 : decode cX0_removeRow 0 = .ok (.aload_n 0, 1) := by decide +kernel
theorem dX0_removeRow_1 : decode cX0_removeRow 1 = .ok (.aload_n 1, 1) := by decide +kernel
theorem dX0_removeRow_2 : decode cX0_removeRow 2 = .ok (.invokevirtual 103, 3) := by decide +kernel
theorem dX0_removeRow_5 : decode cX0_removeRow 5 = .ok (.aload_n 0, 1) := by decide +kernel
theorem dX0_removeRow_6 : decode cX0_removeRow 6 = .ok (.getfield 24, 3) := by decide +kernel
theorem dX0_removeRow_9 : decode cX0_removeRow 9 = .ok (.aload_n 1, 1) := by decide +kernel
theorem dX0_removeRow_10 : decode cX0_removeRow 10 = .ok (.getfield 97, 3) := by decide +kernel
theorem dX0_removeRow_13 : decode cX0_removeRow 13 = .ok (.invokevirtual 106, 3) := by decide +kernel
theorem dX0_removeRow_16 : decode cX0_removeRow 16 = .ok (.aload_n 1, 1) := by decide +kernel
theorem dX0_removeRow_17 : decode cX0_removeRow 17 = .ok (.invokevirtual 121, 3) := by decide +kernel
theorem dX0_removeRow_20 : decode cX0_removeRow 20 = .ok (.ifCond .eq 14, 3) := by decide +kernel
theorem dX0_removeRow_23 : decode cX0_removeRow 23 = .ok (.aload_n 0, 1) := by decide +kernel
theorem dX0_removeRow_24 : decode cX0_removeRow 24 = .ok (.getfield 24, 3) := by decide +kernel
theorem dX0_removeRow_27 : decode cX0_removeRow 27 = .ok (.aload_n 1, 1) := by decide +kernel
theorem dX0_removeRow_28 : decode cX0_removeRow 28 = .ok (.getfield 94, 3) := by decide +kernel
theorem dX0_removeRow_31 : decode cX0_removeRow 31 = .ok (.invokevirtual 106, 3) := by decide +kernel
theorem dX0_removeRow_34 : decode cX0_removeRow 34 = .ok (.aload_n 0, 1) := by decide +kernel
theorem dX0_removeRow_35 : decode cX0_removeRow 35 = .ok (.getfield 34, 3) := by decide +kernel
theorem dX0_removeRow_38 : decode cX0_removeRow 38 = .ok (.aload_n 1, 1) := by decide +kernel
theorem dX0_removeRow_39 : decode cX0_removeRow 39 = .ok (.getfield 79, 3) := by decide +kernel
theorem dX0_removeRow_42 : decode cX0_removeRow 42 = .ok (.iconst (-1), 1) := by decide +kernel
theorem dX0_removeRow_43 : decode cX0_removeRow 43 = .ok (.invokestatic 82, 3) := by decide +kernel
theorem dX0_removeRow_46 : decode cX0_removeRow 46 = .ok (.aload_n 1, 1) := by decide +kernel
theorem dX0_removeRow_47 : decode cX0_removeRow 47 = .ok (.iconst (-1), 1) := by decide +kernel
theorem dX0_removeRow_48 : decode cX0_removeRow 48 = .ok (.putfield 79, 3) := by decide +kernel
theorem dX0_removeRow_51 : decode cX0_removeRow 51 = .ok (.aload_n 0, 1) := by decide +kernel
theorem dX0_removeRow_52 : decode cX0_removeRow 52 = .ok (.dup, 1) := by decide +kernel
theorem dX0_removeRow_53 : decode cX0_removeRow 53 = .ok (.getfield 18, 3) := by decide +kernel
theorem dX0_removeRow_56 : decode cX0_removeRow 56 = .ok (.iconst 1, 1) := by decide +kernel
theorem dX0_removeRow_57 : decode cX0_removeRow 57 = .ok (.isub, 1) := by decide +kernel
theorem dX0_removeRow_58 : decode cX0_removeRow 58 = .ok (.putfield 18, 3) := by decide +kernel
theorem dX0_removeRow_61 : decode cX0_removeRow 61 = .ok (.return_, 1) := by decide +kernel
theorem dX0_packAll_0 : decode cX0_packAll 0 = .ok (.aload_n 0, 1) := by decide +kernel
theorem dX0_packAll_1 : decode cX0_packAll 1 = .ok (.getfield 24, 3) := by decide +kernel
theorem dX0_packAll_4 : decode cX0_packAll 4 = .ok (.invokevirtual 140, 3) := by decide +kernel
theorem dX0_packAll_7 : decode cX0_packAll 7 = .ok (.iconst 0, 1) := by decide +kernel
theorem dX0_packAll_8 : decode cX0_packAll 8 = .ok (.istore_n 1, 1) := by decide +kernel
theorem dX0_packAll_9 : decode cX0_packAll 9 = .ok (.iload_n 1, 1) := by decide +kernel
theorem dX0_packAll_10 : decode cX0_packAll 10 = .ok (.bipush 100, 2) := by decide +kernel
theorem dX0_packAll_12 : decode cX0_packAll 12 = .ok (.if_icmp .ge 29, 3) := by decide +kernel
theorem dX0_packAll_15 : decode cX0_packAll 15 = .ok (.aload_n 0, 1) := by decide +kernel
theorem dX0_packAll_16 : decode cX0_packAll 16 = .ok (.iload_n 1, 1) := by decide +kernel
theorem dX0_packAll_17 : decode cX0_packAll 17 = .ok (.invokevirtual 62, 3) := by decide +kernel
theorem dX0_packAll_20 : decode cX0_packAll 20 = .ok (.astore_n 2, 1) := by decide +kernel
theorem dX0_packAll_21 : decode cX0_packAll 21 = .ok (.aload_n 2, 1) := by decide +kernel
theorem dX0_packAll_22 : decode cX0_packAll 22 = .ok (.ifnull 13, 3) := by decide +kernel
theorem dX0_packAll_25 : decode cX0_packAll 25 = .ok (.aload_n 0, 1) := by decide +kernel
theorem dX0_packAll_26 : decode cX0_packAll 26 = .ok (.aload_n 2, 1) := by decide +kernel
theorem dX0_packAll_27 : decode cX0_packAll 27 = .ok (.invokevirtual 76, 3) := by decide +kernel
theorem dX0_packAll_30 : decode cX0_packAll 30 = .ok (.ifCond .ne 5, 3) := by decide +kernel
theorem dX0_packAll_33 : decode cX0_packAll 33 = .ok (.iconst 0, 1) := by decide +kernel
theorem dX0_packAll_34 : decode cX0_packAll 34 = .ok (.ireturn, 1) := by decide +kernel
theorem dX0_packAll_35 : decode cX0_packAll 35 = .ok (.iinc 1 1, 3) := by decide +kernel
theorem dX0_packAll_38 : decode cX0_packAll 38 = .ok (.goto (-29), 3) := by decide +kernel
theorem dX0_packAll_41 : decode cX0_packAll 41 = .ok (.iconst 1, 1) := by decide +kernel
theorem dX0_packAll_42 : decode cX0_packAll 42 = .ok (.ireturn, 1) := by decide +kernel
theorem dX0_cellsOf_0 : decode cX0_cellsOf 0 = .ok (.aload_n 0, 1) := by decide +kernel
theorem dX0_cellsOf_1 : decode cX0_cellsOf 1 = .ok (.getfield 24, 3) := by decide +kernel
theorem dX0_cellsOf_4 : decode cX0_cellsOf 4 = .ok (.getfield 143, 3) := by decide +kernel
theorem dX0_cellsOf_7 : decode cX0_cellsOf 7 = .ok (.aload_n 1, 1) := by decide +kernel
theorem dX0_cellsOf_8 : decode cX0_cellsOf 8 = .ok (.getfield 97, 3) := by decide +kernel
theorem dX0_cellsOf_11 : decode cX0_cellsOf 11 = .ok (.invokestatic 58, 3) := by decide +kernel
theorem dX0_cellsOf_14 : decode cX0_cellsOf 14 = .ok (.istore_n 2, 1) := by decide +kernel
theorem dX0_cellsOf_15 : decode cX0_cellsOf 15 = .ok (.iconst 0, 1) := by decide +kernel
theorem dX0_cellsOf_16 : decode cX0_cellsOf 16 = .ok (.istore_n 3, 1) := by decide +kernel
theorem dX0_cellsOf_17 : decode cX0_cellsOf 17 = .ok (.iload_n 3, 1) := by decide +kernel
theorem dX0_cellsOf_18 : decode cX0_cellsOf 18 = .ok (.aload_n 1, 1) := by decide +kernel
theorem dX0_cellsOf_19 : decode cX0_cellsOf 19 = .ok (.getfield 128, 3) := by decide +kernel
theorem dX0_cellsOf_22 : decode cX0_cellsOf 22 = .ok (.if_icmp .ge 30, 3) := by decide +kernel
theorem dX0_cellsOf_25 : decode cX0_cellsOf 25 = .ok (.iload_n 2, 1) := by decide +kernel
theorem dX0_cellsOf_26 : decode cX0_cellsOf 26 = .ok (.aload_n 0, 1) := by decide +kernel
theorem dX0_cellsOf_27 : decode cX0_cellsOf 27 = .ok (.getfield 24, 3) := by decide +kernel
theorem dX0_cellsOf_30 : decode cX0_cellsOf 30 = .ok (.getfield 143, 3) := by decide +kernel
theorem dX0_cellsOf_33 : decode cX0_cellsOf 33 = .ok (.aload_n 1, 1) := by decide +kernel
theorem dX0_cellsOf_34 : decode cX0_cellsOf 34 = .ok (.getfield 137, 3) := by decide +kernel
theorem dX0_cellsOf_37 : decode cX0_cellsOf 37 = .ok (.iload_n 3, 1) := by decide +kernel
theorem dX0_cellsOf_38 : decode cX0_cellsOf 38 = .ok (.invokestatic 58, 3) := by decide +kernel
theorem dX0_cellsOf_41 : decode cX0_cellsOf 41 = .ok (.invokestatic 58, 3) := by decide +kernel
theorem dX0_cellsOf_44 : decode cX0_cellsOf 44 = .ok (.iadd, 1) := by decide +kernel
theorem dX0_cellsOf_45 : decode cX0_cellsOf 45 = .ok (.istore_n 2, 1) := by decide +kernel
theorem dX0_cellsOf_46 : decode cX0_cellsOf 46 = .ok (.iinc 3 1, 3) := by decide +kernel
theorem dX0_cellsOf_49 : decode cX0_cellsOf 49 = .ok (.goto (-32), 3) := by decide +kernel
theorem dX0_cellsOf_52 : decode cX0_cellsOf 52 = .ok (.aload_n 1, 1) := by decide +kernel
theorem dX0_cellsOf_53 : decode cX0_cellsOf 53 = .ok (.invokevirtual 121, 3) := by decide +kernel
theorem dX0_cellsOf_56 : decode cX0_cellsOf 56 = .ok (.ifCond .eq 9, 3) := by decide +kernel
theorem dX0_cellsOf_59 : decode cX0_cellsOf 59 = .ok (.iload_n 2, 1) := by decide +kernel
theorem dX0_cellsOf_60 : decode cX0_cellsOf 60 = .ok (.iconst 1, 1) := by decide +kernel
theorem dX0_cellsOf_61 : decode cX0_cellsOf 61 = .ok (.iadd, 1) := by decide +kernel
theorem dX0_cellsOf_62 : decode cX0_cellsOf 62 = .ok (.goto 4, 3) := by decide +kernel
theorem dX0_cellsOf_65 : decode cX0_cellsOf 65 = .ok (.iload_n 2, 1) := by decide +kernel
theorem dX0_cellsOf_66 : decode cX0_cellsOf 66 = .ok (.ireturn, 1) := by decide +kernel
theorem dX0_costInAll_0 : decode cX0_costInAll 0 = .ok (.iconst 0, 1) := by decide +kernel
theorem dX0_costInAll_1 : decode cX0_costInAll 1 = .ok (.istore_n 1, 1) := by decide +kernel
theorem dX0_costInAll_2 : decode cX0_costInAll 2 = .ok (.iconst 0, 1) := by decide +kernel
theorem dX0_costInAll_3 : decode cX0_costInAll 3 = .ok (.istore_n 2, 1) := by decide +kernel
theorem dX0_costInAll_4 : decode cX0_costInAll 4 = .ok (.iload_n 2, 1) := by decide +kernel
theorem dX0_costInAll_5 : decode cX0_costInAll 5 = .ok (.bipush 100, 2) := by decide +kernel
theorem dX0_costInAll_7 : decode cX0_costInAll 7 = .ok (.if_icmp .ge 26, 3) := by decide +kernel
theorem dX0_costInAll_10 : decode cX0_costInAll 10 = .ok (.aload_n 0, 1) := by decide +kernel
theorem dX0_costInAll_11 : decode cX0_costInAll 11 = .ok (.iload_n 2, 1) := by decide +kernel
theorem dX0_costInAll_12 : decode cX0_costInAll 12 = .ok (.invokevirtual 62, 3) := by decide +kernel
theorem dX0_costInAll_15 : decode cX0_costInAll 15 = .ok (.astore_n 3, 1) := by decide +kernel
theorem dX0_costInAll_16 : decode cX0_costInAll 16 = .ok (.aload_n 3, 1) := by decide +kernel
theorem dX0_costInAll_17 : decode cX0_costInAll 17 = .ok (.ifnull 10, 3) := by decide +kernel
theorem dX0_costInAll_20 : decode cX0_costInAll 20 = .ok (.iload_n 1, 1) := by decide +kernel
theorem dX0_costInAll_21 : decode cX0_costInAll 21 = .ok (.aload_n 3, 1) := by decide +kernel
theorem dX0_costInAll_22 : decode cX0_costInAll 22 = .ok (.invokevirtual 146, 3) := by decide +kernel
theorem dX0_costInAll_25 : decode cX0_costInAll 25 = .ok (.iadd, 1) := by decide +kernel
theorem dX0_costInAll_26 : decode cX0_costInAll 26 = .ok (.istore_n 1, 1) := by decide +kernel
theorem dX0_costInAll_27 : decode cX0_costInAll 27 = .ok (.iinc 2 1, 3) := by decide +kernel
theorem dX0_costInAll_30 : decode cX0_costInAll 30 = .ok (.goto (-26), 3) := by decide +kernel
theorem dX0_costInAll_33 : decode cX0_costInAll 33 = .ok (.iload_n 1, 1) := by decide +kernel
theorem dX0_costInAll_34 : decode cX0_costInAll 34 = .ok (.ireturn, 1) := by decide +kernel
theorem dX0_greatestCost_0 : decode cX0_greatestCost 0 = .ok (.iconst 0, 1) := by decide +kernel
theorem dX0_greatestCost_1 : decode cX0_greatestCost 1 = .ok (.istore_n 1, 1) := by decide +kernel
theorem dX0_greatestCost_2 : decode cX0_greatestCost 2 = .ok (.iconst 0, 1) := by decide +kernel
theorem dX0_greatestCost_3 : decode cX0_greatestCost 3 = .ok (.istore_n 2, 1) := by decide +kernel
theorem dX0_greatestCost_4 : decode cX0_greatestCost 4 = .ok (.iload_n 2, 1) := by decide +kernel
theorem dX0_greatestCost_5 : decode cX0_greatestCost 5 = .ok (.bipush 100, 2) := by decide +kernel
theorem dX0_greatestCost_7 : decode cX0_greatestCost 7 = .ok (.if_icmp .ge 28, 3) := by decide +kernel
theorem dX0_greatestCost_10 : decode cX0_greatestCost 10 = .ok (.aload_n 0, 1) := by decide +kernel
theorem dX0_greatestCost_11 : decode cX0_greatestCost 11 = .ok (.iload_n 2, 1) := by decide +kernel
theorem dX0_greatestCost_12 : decode cX0_greatestCost 12 = .ok (.invokevirtual 62, 3) := by decide +kernel
theorem dX0_greatestCost_15 : decode cX0_greatestCost 15 = .ok (.astore_n 3, 1) := by decide +kernel
theorem dX0_greatestCost_16 : decode cX0_greatestCost 16 = .ok (.aload_n 3, 1) := by decide +kernel
theorem dX0_greatestCost_17 : decode cX0_greatestCost 17 = .ok (.ifnull 12, 3) := by decide +kernel
theorem dX0_greatestCost_20 : decode cX0_greatestCost 20 = .ok (.iload_n 1, 1) := by decide +kernel
theorem dX0_greatestCost_21 : decode cX0_greatestCost 21 = .ok (.aload_n 3, 1) := by decide +kernel
theorem dX0_greatestCost_22 : decode cX0_greatestCost 22 = .ok (.invokevirtual 146, 3) := by decide +kernel
theorem dX0_greatestCost_25 : decode cX0_greatestCost 25 = .ok (.invokestatic 150, 3) := by decide +kernel
theorem dX0_greatestCost_28 : decode cX0_greatestCost 28 = .ok (.istore_n 1, 1) := by decide +kernel
theorem dX0_greatestCost_29 : decode cX0_greatestCost 29 = .ok (.iinc 2 1, 3) := by decide +kernel
theorem dX0_greatestCost_32 : decode cX0_greatestCost 32 = .ok (.goto (-28), 3) := by decide +kernel
theorem dX0_greatestCost_35 : decode cX0_greatestCost 35 = .ok (.iload_n 1, 1) := by decide +kernel
theorem dX0_greatestCost_36 : decode cX0_greatestCost 36 = .ok (.ireturn, 1) := by decide +kernel
theorem dX0_lettersInAll_0 : decode cX0_lettersInAll 0 = .ok (.iconst 0, 1) := by decide +kernel
theorem dX0_lettersInAll_1 : decode cX0_lettersInAll 1 = .ok (.istore_n 1, 1) := by decide +kernel
theorem dX0_lettersInAll_2 : decode cX0_lettersInAll 2 = .ok (.iconst 0, 1) := by decide +kernel
theorem dX0_lettersInAll_3 : decode cX0_lettersInAll 3 = .ok (.istore_n 2, 1) := by decide +kernel
theorem dX0_lettersInAll_4 : decode cX0_lettersInAll 4 = .ok (.iload_n 2, 1) := by decide +kernel
theorem dX0_lettersInAll_5 : decode cX0_lettersInAll 5 = .ok (.bipush 100, 2) := by decide +kernel
theorem dX0_lettersInAll_7 : decode cX0_lettersInAll 7 = .ok (.if_icmp .ge 26, 3) := by decide +kernel
theorem dX0_lettersInAll_10 : decode cX0_lettersInAll 10 = .ok (.aload_n 0, 1) := by decide +kernel
theorem dX0_lettersInAll_11 : decode cX0_lettersInAll 11 = .ok (.iload_n 2, 1) := by decide +kernel
theorem dX0_lettersInAll_12 : decode cX0_lettersInAll 12 = .ok (.invokevirtual 62, 3) := by decide +kernel
theorem dX0_lettersInAll_15 : decode cX0_lettersInAll 15 = .ok (.astore_n 3, 1) := by decide +kernel
theorem dX0_lettersInAll_16 : decode cX0_lettersInAll 16 = .ok (.aload_n 3, 1) := by decide +kernel
theorem dX0_lettersInAll_17 : decode cX0_lettersInAll 17 = .ok (.ifnull 10, 3) := by decide +kernel
theorem dX0_lettersInAll_20 : decode cX0_lettersInAll 20 = .ok (.iload_n 1, 1) := by decide +kernel
theorem dX0_lettersInAll_21 : decode cX0_lettersInAll 21 = .ok (.aload_n 3, 1) := by decide +kernel
theorem dX0_lettersInAll_22 : decode cX0_lettersInAll 22 = .ok (.getfield 66, 3) := by decide +kernel
theorem dX0_lettersInAll_25 : decode cX0_lettersInAll 25 = .ok (.iadd, 1) := by decide +kernel
theorem dX0_lettersInAll_26 : decode cX0_lettersInAll 26 = .ok (.istore_n 1, 1) := by decide +kernel
theorem dX0_lettersInAll_27 : decode cX0_lettersInAll 27 = .ok (.iinc 2 1, 3) := by decide +kernel
theorem dX0_lettersInAll_30 : decode cX0_lettersInAll 30 = .ok (.goto (-26), 3) := by decide +kernel
theorem dX0_lettersInAll_33 : decode cX0_lettersInAll 33 = .ok (.iload_n 1, 1) := by decide +kernel
theorem dX0_lettersInAll_34 : decode cX0_lettersInAll 34 = .ok (.ireturn, 1) := by decide +kernel
theorem dX1_init_0 : decode cX1_init 0 = .ok (.aload_n 0, 1) := by decide +kernel
theorem dX1_init_1 : decode cX1_init 1 = .ok (.invokespecial 3, 3) := by decide +kernel
theorem dX1_init_4 : decode cX1_init 4 = .ok (.aload_n 0, 1) := by decide +kernel
theorem dX1_init_5 : decode cX1_init 5 = .ok (.bipush 6, 2) := by decide +kernel
theorem dX1_init_7 : decode cX1_init 7 = .ok (.anewarray 9, 3) := by decide +kernel
theorem dX1_init_10 : decode cX1_init 10 = .ok (.putfield 11, 3) := by decide +kernel
theorem dX1_init_13 : decode cX1_init 13 = .ok (.aload_n 0, 1) := by decide +kernel
theorem dX1_init_14 : decode cX1_init 14 = .ok (.iconst 0, 1) := by decide +kernel
theorem dX1_init_15 : decode cX1_init 15 = .ok (.putfield 17, 3) := by decide +kernel
theorem dX1_init_18 : decode cX1_init 18 = .ok (.aload_n 0, 1) := by decide +kernel
theorem dX1_init_19 : decode cX1_init 19 = .ok (.iconst 0, 1) := by decide +kernel
theorem dX1_init_20 : decode cX1_init 20 = .ok (.putfield 21, 3) := by decide +kernel
theorem dX1_init_23 : decode cX1_init 23 = .ok (.return_, 1) := by decide +kernel
theorem dX1_record_0 : decode cX1_record 0 = .ok (.aload_n 0, 1) := by decide +kernel
theorem dX1_record_1 : decode cX1_record 1 = .ok (.getfield 21, 3) := by decide +kernel
theorem dX1_record_4 : decode cX1_record 4 = .ok (.aload_n 0, 1) := by decide +kernel
theorem dX1_record_5 : decode cX1_record 5 = .ok (.getfield 17, 3) := by decide +kernel
theorem dX1_record_8 : decode cX1_record 8 = .ok (.iadd, 1) := by decide +kernel
theorem dX1_record_9 : decode cX1_record 9 = .ok (.bipush 6, 2) := by decide +kernel
theorem dX1_record_11 : decode cX1_record 11 = .ok (.invokestatic 24, 3) := by decide +kernel
theorem dX1_record_14 : decode cX1_record 14 = .ok (.istore_n 2, 1) := by decide +kernel
theorem dX1_record_15 : decode cX1_record 15 = .ok (.aload_n 0, 1) := by decide +kernel
theorem dX1_record_16 : decode cX1_record 16 = .ok (.getfield 11, 3) := by decide +kernel
theorem dX1_record_19 : decode cX1_record 19 = .ok (.iload_n 2, 1) := by decide +kernel
theorem dX1_record_20 : decode cX1_record 20 = .ok (.aaload, 1) := by decide +kernel
theorem dX1_record_21 : decode cX1_record 21 = .ok (.ifnonnull 16, 3) := by decide +kernel
theorem dX1_record_24 : decode cX1_record 24 = .ok (.aload_n 0, 1) := by decide +kernel
theorem dX1_record_25 : decode cX1_record 25 = .ok (.getfield 11, 3) := by decide +kernel
theorem dX1_record_28 : decode cX1_record 28 = .ok (.iload_n 2, 1) := by decide +kernel
theorem dX1_record_29 : decode cX1_record 29 = .ok (.new 9, 3) := by decide +kernel
theorem dX1_record_32 : decode cX1_record 32 = .ok (.dup, 1) := by decide +kernel
theorem dX1_record_33 : decode cX1_record 33 = .ok (.invokespecial 30, 3) := by decide +kernel
theorem dX1_record_36 : decode cX1_record 36 = .ok (.aastore, 1) := by decide +kernel
theorem dX1_record_37 : decode cX1_record 37 = .ok (.aload_n 0, 1) := by decide +kernel
theorem dX1_record_38 : decode cX1_record 38 = .ok (.getfield 11, 3) := by decide +kernel
theorem dX1_record_41 : decode cX1_record 41 = .ok (.iload_n 2, 1) := by decide +kernel
theorem dX1_record_42 : decode cX1_record 42 = .ok (.aaload, 1) := by decide +kernel
theorem dX1_record_43 : decode cX1_record 43 = .ok (.aload_n 1, 1) := by decide +kernel
theorem dX1_record_44 : decode cX1_record 44 = .ok (.invokevirtual 31, 3) := by decide +kernel
theorem dX1_record_47 : decode cX1_record 47 = .ok (.aload_n 0, 1) := by decide +kernel
theorem dX1_record_48 : decode cX1_record 48 = .ok (.getfield 17, 3) := by decide +kernel
theorem dX1_record_51 : decode cX1_record 51 = .ok (.bipush 6, 2) := by decide +kernel
theorem dX1_record_53 : decode cX1_record 53 = .ok (.if_icmp .ge 16, 3) := by decide +kernel
theorem dX1_record_56 : decode cX1_record 56 = .ok (.aload_n 0, 1) := by decide +kernel
theorem dX1_record_57 : decode cX1_record 57 = .ok (.dup, 1) := by decide +kernel
theorem dX1_record_58 : decode cX1_record 58 = .ok (.getfield 17, 3) := by decide +kernel
theorem dX1_record_61 : decode cX1_record 61 = .ok (.iconst 1, 1) := by decide +kernel
theorem dX1_record_62 : decode cX1_record 62 = .ok (.iadd, 1) := by decide +kernel
theorem dX1_record_63 : decode cX1_record 63 = .ok (.putfield 17, 3) := by decide +kernel
theorem dX1_record_66 : decode cX1_record 66 = .ok (.goto 16, 3) := by decide +kernel
theorem dX1_record_69 : decode cX1_record 69 = .ok (.aload_n 0, 1) := by decide +kernel
theorem dX1_record_70 : decode cX1_record 70 = .ok (.aload_n 0, 1) := by decide +kernel
theorem dX1_record_71 : decode cX1_record 71 = .ok (.getfield 21, 3) := by decide +kernel
theorem dX1_record_74 : decode cX1_record 74 = .ok (.iconst 1, 1) := by decide +kernel
theorem dX1_record_75 : decode cX1_record 75 = .ok (.iadd, 1) := by decide +kernel
theorem dX1_record_76 : decode cX1_record 76 = .ok (.bipush 6, 2) := by decide +kernel
theorem dX1_record_78 : decode cX1_record 78 = .ok (.irem, 1) := by decide +kernel
theorem dX1_record_79 : decode cX1_record 79 = .ok (.putfield 21, 3) := by decide +kernel
theorem dX1_record_82 : decode cX1_record 82 = .ok (.return_, 1) := by decide +kernel
theorem dX2_init_0 : decode cX2_init 0 = .ok (.aload_n 0, 1) := by decide +kernel
theorem dX2_init_1 : decode cX2_init 1 = .ok (.invokespecial 3, 3) := by decide +kernel
theorem dX2_init_4 : decode cX2_init 4 = .ok (.aload_n 0, 1) := by decide +kernel
theorem dX2_init_5 : decode cX2_init 5 = .ok (.bipush 80, 2) := by decide +kernel
theorem dX2_init_7 : decode cX2_init 7 = .ok (.newarray .int, 2) := by decide +kernel
theorem dX2_init_9 : decode cX2_init 9 = .ok (.putfield 9, 3) := by decide +kernel
theorem dX2_init_12 : decode cX2_init 12 = .ok (.aload_n 0, 1) := by decide +kernel
theorem dX2_init_13 : decode cX2_init 13 = .ok (.iconst 0, 1) := by decide +kernel
theorem dX2_init_14 : decode cX2_init 14 = .ok (.putfield 15, 3) := by decide +kernel
theorem dX2_init_17 : decode cX2_init 17 = .ok (.aload_n 0, 1) := by decide +kernel
theorem dX2_init_18 : decode cX2_init 18 = .ok (.iconst 0, 1) := by decide +kernel
theorem dX2_init_19 : decode cX2_init 19 = .ok (.putfield 19, 3) := by decide +kernel
theorem dX2_init_22 : decode cX2_init 22 = .ok (.aload_n 0, 1) := by decide +kernel
theorem dX2_init_23 : decode cX2_init 23 = .ok (.bipush 27, 2) := by decide +kernel
theorem dX2_init_25 : decode cX2_init 25 = .ok (.newarray .int, 2) := by decide +kernel
theorem dX2_init_27 : decode cX2_init 27 = .ok (.putfield 22, 3) := by decide +kernel
theorem dX2_init_30 : decode cX2_init 30 = .ok (.aload_n 0, 1) := by decide +kernel
theorem dX2_init_31 : decode cX2_init 31 = .ok (.bipush 27, 2) := by decide +kernel
theorem dX2_init_33 : decode cX2_init 33 = .ok (.newarray .int, 2) := by decide +kernel
theorem dX2_init_35 : decode cX2_init 35 = .ok (.putfield 25, 3) := by decide +kernel
theorem dX2_init_38 : decode cX2_init 38 = .ok (.aload_n 0, 1) := by decide +kernel
theorem dX2_init_39 : decode cX2_init 39 = .ok (.bipush 27, 2) := by decide +kernel
theorem dX2_init_41 : decode cX2_init 41 = .ok (.newarray .int, 2) := by decide +kernel
theorem dX2_init_43 : decode cX2_init 43 = .ok (.putfield 28, 3) := by decide +kernel
theorem dX2_init_46 : decode cX2_init 46 = .ok (.aload_n 0, 1) := by decide +kernel
theorem dX2_init_47 : decode cX2_init 47 = .ok (.iconst 0, 1) := by decide +kernel
theorem dX2_init_48 : decode cX2_init 48 = .ok (.putfield 31, 3) := by decide +kernel
theorem dX2_init_51 : decode cX2_init 51 = .ok (.aload_n 0, 1) := by decide +kernel
theorem dX2_init_52 : decode cX2_init 52 = .ok (.iconst 0, 1) := by decide +kernel
theorem dX2_init_53 : decode cX2_init 53 = .ok (.putfield 35, 3) := by decide +kernel
theorem dX2_init_56 : decode cX2_init 56 = .ok (.aload_n 0, 1) := by decide +kernel
theorem dX2_init_57 : decode cX2_init 57 = .ok (.iconst 0, 1) := by decide +kernel
theorem dX2_init_58 : decode cX2_init 58 = .ok (.putfield 38, 3) := by decide +kernel
theorem dX2_init_61 : decode cX2_init 61 = .ok (.return_, 1) := by decide +kernel
theorem dX2_read_0 : decode cX2_read 0 = .ok (.aload_n 0, 1) := by decide +kernel
theorem dX2_read_1 : decode cX2_read 1 = .ok (.iconst 0, 1) := by decide +kernel
theorem dX2_read_2 : decode cX2_read 2 = .ok (.putfield 19, 3) := by decide +kernel
theorem dX2_read_5 : decode cX2_read 5 = .ok (.aload_n 0, 1) := by decide +kernel
theorem dX2_read_6 : decode cX2_read 6 = .ok (.invokevirtual 41, 3) := by decide +kernel
theorem dX2_read_9 : decode cX2_read 9 = .ok (.iconst 0, 1) := by decide +kernel
theorem dX2_read_10 : decode cX2_read 10 = .ok (.istore_n 1, 1) := by decide +kernel
theorem dX2_read_11 : decode cX2_read 11 = .ok (.iload_n 1, 1) := by decide +kernel
theorem dX2_read_12 : decode cX2_read 12 = .ok (.aload_n 0, 1) := by decide +kernel
theorem dX2_read_13 : decode cX2_read 13 = .ok (.getfield 15, 3) := by decide +kernel
theorem dX2_read_16 : decode cX2_read 16 = .ok (.if_icmp .ge 46, 3) := by decide +kernel
theorem dX2_read_19 : decode cX2_read 19 = .ok (.aload_n 0, 1) := by decide +kernel
theorem dX2_read_20 : decode cX2_read 20 = .ok (.getfield 9, 3) := by decide +kernel
theorem dX2_read_23 : decode cX2_read 23 = .ok (.iload_n 1, 1) := by decide +kernel
theorem dX2_read_24 : decode cX2_read 24 = .ok (.invokestatic 44, 3) := by decide +kernel
theorem dX2_read_27 : decode cX2_read 27 = .ok (.istore_n 2, 1) := by decide +kernel
theorem dX2_read_28 : decode cX2_read 28 = .ok (.aload_n 0, 1) := by decide +kernel
theorem dX2_read_29 : decode cX2_read 29 = .ok (.getfield 31, 3) := by decide +kernel
theorem dX2_read_32 : decode cX2_read 32 = .ok (.ifCond .eq 11, 3) := by decide +kernel
theorem dX2_read_35 : decode cX2_read 35 = .ok (.aload_n 0, 1) := by decide +kernel
theorem dX2_read_36 : decode cX2_read 36 = .ok (.iload_n 2, 1) := by decide +kernel
theorem dX2_read_37 : decode cX2_read 37 = .ok (.invokevirtual 48, 3) := by decide +kernel
theorem dX2_read_40 : decode cX2_read 40 = .ok (.goto 9, 3) := by decide +kernel
theorem dX2_read_43 : decode cX2_read 43 = .ok (.aload_n 0, 1) := by decide +kernel
theorem dX2_read_44 : decode cX2_read 44 = .ok (.iload_n 2, 1) := by decide +kernel
theorem dX2_read_45 : decode cX2_read 45 = .ok (.iload_n 1, 1) := by decide +kernel
theorem dX2_read_46 : decode cX2_read 46 = .ok (.invokevirtual 52, 3) := by decide +kernel
theorem dX2_read_49 : decode cX2_read 49 = .ok (.istore_n 3, 1) := by decide +kernel
theorem dX2_read_50 : decode cX2_read 50 = .ok (.iload_n 3, 1) := by decide +kernel
theorem dX2_read_51 : decode cX2_read 51 = .ok (.ifCond .ne 5, 3) := by decide +kernel
theorem dX2_read_54 : decode cX2_read 54 = .ok (.iload_n 1, 1) := by decide +kernel
theorem dX2_read_55 : decode cX2_read 55 = .ok (.ireturn, 1) := by decide +kernel
theorem dX2_read_56 : decode cX2_read 56 = .ok (.iinc 1 1, 3) := by decide +kernel
theorem dX2_read_59 : decode cX2_read 59 = .ok (.goto (-48), 3) := by decide +kernel
theorem dX2_read_62 : decode cX2_read 62 = .ok (.aload_n 0, 1) := by decide +kernel
theorem dX2_read_63 : decode cX2_read 63 = .ok (.getfield 31, 3) := by decide +kernel
theorem dX2_read_66 : decode cX2_read 66 = .ok (.ifCond .eq 7, 3) := by decide +kernel
theorem dX2_read_69 : decode cX2_read 69 = .ok (.iconst (-1), 1) := by decide +kernel
theorem dX2_read_70 : decode cX2_read 70 = .ok (.goto 7, 3) := by decide +kernel
theorem dX2_read_73 : decode cX2_read 73 = .ok (.aload_n 0, 1) := by decide +kernel
theorem dX2_read_74 : decode cX2_read 74 = .ok (.getfield 15, 3) := by decide +kernel
theorem dX2_read_77 : decode cX2_read 77 = .ok (.ireturn, 1) := by decide +kernel
theorem dX2_awaitKey_0 : decode cX2_awaitKey 0 = .ok (.aload_n 0, 1) := by decide +kernel
theorem dX2_awaitKey_1 : decode cX2_awaitKey 1 = .ok (.iconst 0, 1) := by decide +kernel
theorem dX2_awaitKey_2 : decode cX2_awaitKey 2 = .ok (.putfield 31, 3) := by decide +kernel
theorem dX2_awaitKey_5 : decode cX2_awaitKey 5 = .ok (.aload_n 0, 1) := by decide +kernel
theorem dX2_awaitKey_6 : decode cX2_awaitKey 6 = .ok (.iconst 0, 1) := by decide +kernel
theorem dX2_awaitKey_7 : decode cX2_awaitKey 7 = .ok (.putfield 35, 3) := by decide +kernel
theorem dX2_awaitKey_10 : decode cX2_awaitKey 10 = .ok (.aload_n 0, 1) := by decide +kernel
theorem dX2_awaitKey_11 : decode cX2_awaitKey 11 = .ok (.iconst 0, 1) := by decide +kernel
theorem dX2_awaitKey_12 : decode cX2_awaitKey 12 = .ok (.putfield 38, 3) := by decide +kernel
theorem dX2_awaitKey_15 : decode cX2_awaitKey 15 = .ok (.return_, 1) := by decide +kernel
theorem dX2_readInKey_0 : decode cX2_readInKey 0 = .ok (.iload_n 1, 1) := by decide +kernel
theorem dX2_readInKey_1 : decode cX2_readInKey 1 = .ok (.bipush 61, 2) := by decide +kernel
theorem dX2_readInKey_3 : decode cX2_readInKey 3 = .ok (.if_icmp .ne 26, 3) := by decide +kernel
theorem dX2_readInKey_6 : decode cX2_readInKey 6 = .ok (.aload_n 0, 1) := by decide +kernel
theorem dX2_readInKey_7 : decode cX2_readInKey 7 = .ok (.getfield 35, 3) := by decide +kernel
theorem dX2_readInKey_10 : decode cX2_readInKey 10 = .ok (.ifCond .le 17, 3) := by decide +kernel
theorem dX2_readInKey_13 : decode cX2_readInKey 13 = .ok (.aload_n 0, 1) := by decide +kernel
theorem dX2_readInKey_14 : decode cX2_readInKey 14 = .ok (.iload_n 2, 1) := by decide +kernel
theorem dX2_readInKey_15 : decode cX2_readInKey 15 = .ok (.iconst 1, 1) := by decide +kernel
theorem dX2_readInKey_16 : decode cX2_readInKey 16 = .ok (.iadd, 1) := by decide +kernel
theorem dX2_readInKey_17 : decode cX2_readInKey 17 = .ok (.invokevirtual 56, 3) := by decide +kernel
theorem dX2_readInKey_20 : decode cX2_readInKey 20 = .ok (.ifCond .eq 7, 3) := by decide +kernel
theorem dX2_readInKey_23 : decode cX2_readInKey 23 = .ok (.iconst 1, 1) := by decide +kernel
theorem dX2_readInKey_24 : decode cX2_readInKey 24 = .ok (.goto 4, 3) := by decide +kernel
theorem dX2_readInKey_27 : decode cX2_readInKey 27 = .ok (.iconst 0, 1) := by decide +kernel
theorem dX2_readInKey_28 : decode cX2_readInKey 28 = .ok (.ireturn, 1) := by decide +kernel
theorem dX2_readInKey_29 : decode cX2_readInKey 29 = .ok (.aload_n 0, 1) := by decide +kernel
theorem dX2_readInKey_30 : decode cX2_readInKey 30 = .ok (.getfield 35, 3) := by decide +kernel
theorem dX2_readInKey_33 : decode cX2_readInKey 33 = .ok (.ifCond .le 14, 3) := by decide +kernel
theorem dX2_readInKey_36 : decode cX2_readInKey 36 = .ok (.aload_n 0, 1) := by decide +kernel
theorem dX2_readInKey_37 : decode cX2_readInKey 37 = .ok (.getfield 38, 3) := by decide +kernel
theorem dX2_readInKey_40 : decode cX2_readInKey 40 = .ok (.ifCond .ne 7, 3) := by decide +kernel
theorem dX2_readInKey_43 : decode cX2_readInKey 43 = .ok (.iconst 1, 1) := by decide +kernel
theorem dX2_readInKey_44 : decode cX2_readInKey 44 = .ok (.goto 4, 3) := by decide +kernel
theorem dX2_readInKey_47 : decode cX2_readInKey 47 = .ok (.iconst 0, 1) := by decide +kernel
theorem dX2_readInKey_48 : decode cX2_readInKey 48 = .ok (.istore_n 3, 1) := by decide +kernel
theorem dX2_readInKey_49 : decode cX2_readInKey 49 = .ok (.iload_n 1, 1) := by decide +kernel
theorem dX2_readInKey_50 : decode cX2_readInKey 50 = .ok (.bipush 48, 2) := by decide +kernel
theorem dX2_readInKey_52 : decode cX2_readInKey 52 = .ok (.if_icmp .lt 13, 3) := by decide +kernel
theorem dX2_readInKey_55 : decode cX2_readInKey 55 = .ok (.iload_n 1, 1) := by decide +kernel
theorem dX2_readInKey_56 : decode cX2_readInKey 56 = .ok (.bipush 57, 2) := by decide +kernel
theorem dX2_readInKey_58 : decode cX2_readInKey 58 = .ok (.if_icmp .gt 7, 3) := by decide +kernel
theorem dX2_readInKey_61 : decode cX2_readInKey 61 = .ok (.iload_n 3, 1) := by decide +kernel
theorem dX2_readInKey_62 : decode cX2_readInKey 62 = .ok (.ifCond .eq 5, 3) := by decide +kernel
theorem dX2_readInKey_65 : decode cX2_readInKey 65 = .ok (.iconst 0, 1) := by decide +kernel
theorem dX2_readInKey_66 : decode cX2_readInKey 66 = .ok (.ireturn, 1) := by decide +kernel
theorem dX2_readInKey_67 : decode cX2_readInKey 67 = .ok (.aload_n 0, 1) := by decide +kernel
theorem dX2_readInKey_68 : decode cX2_readInKey 68 = .ok (.aload_n 0, 1) := by decide +kernel
theorem dX2_readInKey_69 : decode cX2_readInKey 69 = .ok (.getfield 38, 3) := by decide +kernel
theorem dX2_readInKey_72 : decode cX2_readInKey 72 = .ok (.bipush 10, 2) := by decide +kernel
theorem dX2_readInKey_74 : decode cX2_readInKey 74 = .ok (.imul, 1) := by decide +kernel
theorem dX2_readInKey_75 : decode cX2_readInKey 75 = .ok (.iload_n 1, 1) := by decide +kernel
theorem dX2_readInKey_76 : decode cX2_readInKey 76 = .ok (.iadd, 1) := by decide +kernel
theorem dX2_readInKey_77 : decode cX2_readInKey 77 = .ok (.bipush 48, 2) := by decide +kernel
theorem dX2_readInKey_79 : decode cX2_readInKey 79 = .ok (.isub, 1) := by decide +kernel
theorem dX2_readInKey_80 : decode cX2_readInKey 80 = .ok (.putfield 38, 3) := by decide +kernel
theorem dX2_readInKey_83 : decode cX2_readInKey 83 = .ok (.aload_n 0, 1) := by decide +kernel
theorem dX2_readInKey_84 : decode cX2_readInKey 84 = .ok (.dup, 1) := by decide +kernel
theorem dX2_readInKey_85 : decode cX2_readInKey 85 = .ok (.getfield 35, 3) := by decide +kernel
theorem dX2_readInKey_88 : decode cX2_readInKey 88 = .ok (.iconst 1, 1) := by decide +kernel
theorem dX2_readInKey_89 : decode cX2_readInKey 89 = .ok (.iadd, 1) := by decide +kernel
theorem dX2_readInKey_90 : decode cX2_readInKey 90 = .ok (.putfield 35, 3) := by decide +kernel
theorem dX2_readInKey_93 : decode cX2_readInKey 93 = .ok (.aload_n 0, 1) := by decide +kernel
theorem dX2_readInKey_94 : decode cX2_readInKey 94 = .ok (.getfield 38, 3) := by decide +kernel
theorem dX2_readInKey_97 : decode cX2_readInKey 97 = .ok (.bipush 100, 2) := by decide +kernel
theorem dX2_readInKey_99 : decode cX2_readInKey 99 = .ok (.if_icmp .ge 7, 3) := by decide +kernel
theorem dX2_readInKey_102 : decode cX2_readInKey 102 = .ok (.iconst 1, 1) := by decide +kernel
theorem dX2_readInKey_103 : decode cX2_readInKey 103 = .ok (.goto 4, 3) := by decide +kernel
theorem dX2_readInKey_106 : decode cX2_readInKey 106 = .ok (.iconst 0, 1) := by decide +kernel
theorem dX2_readInKey_107 : decode cX2_readInKey 107 = .ok (.ireturn, 1) := by decide +kernel
theorem dX2_startText_0 : decode cX2_startText 0 = .ok (.aload_n 0, 1) := by decide +kernel
theorem dX2_startText_1 : decode cX2_startText 1 = .ok (.getfield 19, 3) := by decide +kernel
theorem dX2_startText_4 : decode cX2_startText 4 = .ok (.bipush 27, 2) := by decide +kernel
theorem dX2_startText_6 : decode cX2_startText 6 = .ok (.if_icmp .lt 5, 3) := by decide +kernel
theorem dX2_startText_9 : decode cX2_startText 9 = .ok (.iconst 0, 1) := by decide +kernel
theorem dX2_startText_10 : decode cX2_startText 10 = .ok (.ireturn, 1) := by decide +kernel
theorem dX2_startText_11 : decode cX2_startText 11 = .ok (.aload_n 0, 1) := by decide +kernel
theorem dX2_startText_12 : decode cX2_startText 12 = .ok (.getfield 22, 3) := by decide +kernel
theorem dX2_startText_15 : decode cX2_startText 15 = .ok (.aload_n 0, 1) := by decide +kernel
theorem dX2_startText_16 : decode cX2_startText 16 = .ok (.getfield 19, 3) := by decide +kernel
theorem dX2_startText_19 : decode cX2_startText 19 = .ok (.aload_n 0, 1) := by decide +kernel
theorem dX2_startText_20 : decode cX2_startText 20 = .ok (.getfield 38, 3) := by decide +kernel
theorem dX2_startText_23 : decode cX2_startText 23 = .ok (.invokestatic 59, 3) := by decide +kernel
theorem dX2_startText_26 : decode cX2_startText 26 = .ok (.aload_n 0, 1) := by decide +kernel
theorem dX2_startText_27 : decode cX2_startText 27 = .ok (.getfield 25, 3) := by decide +kernel
theorem dX2_startText_30 : decode cX2_startText 30 = .ok (.aload_n 0, 1) := by decide +kernel
theorem dX2_startText_31 : decode cX2_startText 31 = .ok (.getfield 19, 3) := by decide +kernel
theorem dX2_startText_34 : decode cX2_startText 34 = .ok (.iload_n 1, 1) := by decide +kernel
theorem dX2_startText_35 : decode cX2_startText 35 = .ok (.invokestatic 59, 3) := by decide +kernel
theorem dX2_startText_38 : decode cX2_startText 38 = .ok (.aload_n 0, 1) := by decide +kernel
theorem dX2_startText_39 : decode cX2_startText 39 = .ok (.getfield 28, 3) := by decide +kernel
theorem dX2_startText_42 : decode cX2_startText 42 = .ok (.aload_n 0, 1) := by decide +kernel
theorem dX2_startText_43 : decode cX2_startText 43 = .ok (.getfield 19, 3) := by decide +kernel
theorem dX2_startText_46 : decode cX2_startText 46 = .ok (.iconst 0, 1) := by decide +kernel
theorem dX2_startText_47 : decode cX2_startText 47 = .ok (.invokestatic 59, 3) := by decide +kernel
theorem dX2_startText_50 : decode cX2_startText 50 = .ok (.aload_n 0, 1) := by decide +kernel
theorem dX2_startText_51 : decode cX2_startText 51 = .ok (.dup, 1) := by decide +kernel
theorem dX2_startText_52 : decode cX2_startText 52 = .ok (.getfield 19, 3) := by decide +kernel
theorem dX2_startText_55 : decode cX2_startText 55 = .ok (.iconst 1, 1) := by decide +kernel
theorem dX2_startText_56 : decode cX2_startText 56 = .ok (.iadd, 1) := by decide +kernel
theorem dX2_startText_57 : decode cX2_startText 57 = .ok (.putfield 19, 3) := by decide +kernel
theorem dX2_startText_60 : decode cX2_startText 60 = .ok (.aload_n 0, 1) := by decide +kernel
theorem dX2_startText_61 : decode cX2_startText 61 = .ok (.iconst 1, 1) := by decide +kernel
theorem dX2_startText_62 : decode cX2_startText 62 = .ok (.putfield 31, 3) := by decide +kernel
theorem dX2_startText_65 : decode cX2_startText 65 = .ok (.iconst 1, 1) := by decide +kernel
theorem dX2_startText_66 : decode cX2_startText 66 = .ok (.ireturn, 1) := by decide +kernel
theorem dX2_readInText_0 : decode cX2_readInText 0 = .ok (.iload_n 1, 1) := by decide +kernel
theorem dX2_readInText_1 : decode cX2_readInText 1 = .ok (.bipush 59, 2) := by decide +kernel
theorem dX2_readInText_3 : decode cX2_readInText 3 = .ok (.if_icmp .ne 9, 3) := by decide +kernel
theorem dX2_readInText_6 : decode cX2_readInText 6 = .ok (.aload_n 0, 1) := by decide +kernel
theorem dX2_readInText_7 : decode cX2_readInText 7 = .ok (.invokevirtual 41, 3) := by decide +kernel
theorem dX2_readInText_10 : decode cX2_readInText 10 = .ok (.iconst 1, 1) := by decide +kernel
theorem dX2_readInText_11 : decode cX2_readInText 11 = .ok (.ireturn, 1) := by decide +kernel
theorem dX2_readInText_12 : decode cX2_readInText 12 = .ok (.aload_n 0, 1) := by decide +kernel
theorem dX2_readInText_13 : decode cX2_readInText 13 = .ok (.getfield 28, 3) := by decide +kernel
theorem dX2_readInText_16 : decode cX2_readInText 16 = .ok (.aload_n 0, 1) := by decide +kernel
theorem dX2_readInText_17 : decode cX2_readInText 17 = .ok (.getfield 19, 3) := by decide +kernel
theorem dX2_readInText_20 : decode cX2_readInText 20 = .ok (.iconst 1, 1) := by decide +kernel
theorem dX2_readInText_21 : decode cX2_readInText 21 = .ok (.isub, 1) := by decide +kernel
theorem dX2_readInText_22 : decode cX2_readInText 22 = .ok (.invokestatic 44, 3) := by decide +kernel
theorem dX2_readInText_25 : decode cX2_readInText 25 = .ok (.istore_n 2, 1) := by decide +kernel
theorem dX2_readInText_26 : decode cX2_readInText 26 = .ok (.iload_n 1, 1) := by decide +kernel
theorem dX2_readInText_27 : decode cX2_readInText 27 = .ok (.bipush 97, 2) := by decide +kernel
theorem dX2_readInText_29 : decode cX2_readInText 29 = .ok (.if_icmp .lt 15, 3) := by decide +kernel
theorem dX2_readInText_32 : decode cX2_readInText 32 = .ok (.iload_n 1, 1) := by decide +kernel
theorem dX2_readInText_33 : decode cX2_readInText 33 = .ok (.bipush 122, 2) := by decide +kernel
theorem dX2_readInText_35 : decode cX2_readInText 35 = .ok (.if_icmp .gt 9, 3) := by decide +kernel
theorem dX2_readInText_38 : decode cX2_readInText 38 = .ok (.iload_n 2, 1) := by decide +kernel
theorem dX2_readInText_39 : decode cX2_readInText 39 = .ok (.bipush 40, 2) := by decide +kernel
theorem dX2_readInText_41 : decode cX2_readInText 41 = .ok (.if_icmp .lt 5, 3) := by decide +kernel
theorem dX2_readInText_44 : decode cX2_readInText 44 = .ok (.iconst 0, 1) := by decide +kernel
theorem dX2_readInText_45 : decode cX2_readInText 45 = .ok (.ireturn, 1) := by decide +kernel
theorem dX2_readInText_46 : decode cX2_readInText 46 = .ok (.aload_n 0, 1) := by decide +kernel
theorem dX2_readInText_47 : decode cX2_readInText 47 = .ok (.getfield 28, 3) := by decide +kernel
theorem dX2_readInText_50 : decode cX2_readInText 50 = .ok (.aload_n 0, 1) := by decide +kernel
theorem dX2_readInText_51 : decode cX2_readInText 51 = .ok (.getfield 19, 3) := by decide +kernel
theorem dX2_readInText_54 : decode cX2_readInText 54 = .ok (.iconst 1, 1) := by decide +kernel
theorem dX2_readInText_55 : decode cX2_readInText 55 = .ok (.isub, 1) := by decide +kernel
theorem dX2_readInText_56 : decode cX2_readInText 56 = .ok (.iload_n 2, 1) := by decide +kernel
theorem dX2_readInText_57 : decode cX2_readInText 57 = .ok (.iconst 1, 1) := by decide +kernel
theorem dX2_readInText_58 : decode cX2_readInText 58 = .ok (.iadd, 1) := by decide +kernel
theorem dX2_readInText_59 : decode cX2_readInText 59 = .ok (.invokestatic 59, 3) := by decide +kernel
theorem dX2_readInText_62 : decode cX2_readInText 62 = .ok (.iconst 1, 1) := by decide +kernel
theorem dX2_readInText_63 : decode cX2_readInText 63 = .ok (.ireturn, 1) := by decide +kernel
theorem dX3_init_0 : decode cX3_init 0 = .ok (.aload_n 0, 1) := by decide +kernel
theorem dX3_init_1 : decode cX3_init 1 = .ok (.invokespecial 3, 3) := by decide +kernel
theorem dX3_init_4 : decode cX3_init 4 = .ok (.aload_n 0, 1) := by decide +kernel
theorem dX3_init_5 : decode cX3_init 5 = .ok (.sipush 400, 3) := by decide +kernel
theorem dX3_init_8 : decode cX3_init 8 = .ok (.newarray .int, 2) := by decide +kernel
theorem dX3_init_10 : decode cX3_init 10 = .ok (.putfield 9, 3) := by decide +kernel
theorem dX3_init_13 : decode cX3_init 13 = .ok (.aload_n 0, 1) := by decide +kernel
theorem dX3_init_14 : decode cX3_init 14 = .ok (.sipush 400, 3) := by decide +kernel
theorem dX3_init_17 : decode cX3_init 17 = .ok (.newarray .int, 2) := by decide +kernel
theorem dX3_init_19 : decode cX3_init 19 = .ok (.putfield 15, 3) := by decide +kernel
theorem dX3_init_22 : decode cX3_init 22 = .ok (.aload_n 0, 1) := by decide +kernel
theorem dX3_init_23 : decode cX3_init 23 = .ok (.sipush 400, 3) := by decide +kernel
theorem dX3_init_26 : decode cX3_init 26 = .ok (.newarray .int, 2) := by decide +kernel
theorem dX3_init_28 : decode cX3_init 28 = .ok (.putfield 18, 3) := by decide +kernel
theorem dX3_init_31 : decode cX3_init 31 = .ok (.aload_n 0, 1) := by decide +kernel
theorem dX3_init_32 : decode cX3_init 32 = .ok (.bipush 10, 2) := by decide +kernel
theorem dX3_init_34 : decode cX3_init 34 = .ok (.newarray .int, 2) := by decide +kernel
theorem dX3_init_36 : decode cX3_init 36 = .ok (.putfield 21, 3) := by decide +kernel
theorem dX3_init_39 : decode cX3_init 39 = .ok (.aload_n 0, 1) := by decide +kernel
theorem dX3_init_40 : decode cX3_init 40 = .ok (.getfield 21, 3) := by decide +kernel
theorem dX3_init_43 : decode cX3_init 43 = .ok (.bipush 40, 2) := by decide +kernel
theorem dX3_init_45 : decode cX3_init 45 = .ok (.invokestatic 24, 3) := by decide +kernel
theorem dX3_init_48 : decode cX3_init 48 = .ok (.return_, 1) := by decide +kernel
theorem dX3_copyFrom_0 : decode cX3_copyFrom 0 = .ok (.aload_n 1, 1) := by decide +kernel
theorem dX3_copyFrom_1 : decode cX3_copyFrom 1 = .ok (.getfield 9, 3) := by decide +kernel
theorem dX3_copyFrom_4 : decode cX3_copyFrom 4 = .ok (.iconst 0, 1) := by decide +kernel
theorem dX3_copyFrom_5 : decode cX3_copyFrom 5 = .ok (.aload_n 0, 1) := by decide +kernel
theorem dX3_copyFrom_6 : decode cX3_copyFrom 6 = .ok (.getfield 9, 3) := by decide +kernel
theorem dX3_copyFrom_9 : decode cX3_copyFrom 9 = .ok (.iconst 0, 1) := by decide +kernel
theorem dX3_copyFrom_10 : decode cX3_copyFrom 10 = .ok (.sipush 400, 3) := by decide +kernel
theorem dX3_copyFrom_13 : decode cX3_copyFrom 13 = .ok (.invokestatic 30, 3) := by decide +kernel
theorem dX3_copyFrom_16 : decode cX3_copyFrom 16 = .ok (.aload_n 1, 1) := by decide +kernel
theorem dX3_copyFrom_17 : decode cX3_copyFrom 17 = .ok (.getfield 15, 3) := by decide +kernel
theorem dX3_copyFrom_20 : decode cX3_copyFrom 20 = .ok (.iconst 0, 1) := by decide +kernel
theorem dX3_copyFrom_21 : decode cX3_copyFrom 21 = .ok (.aload_n 0, 1) := by decide +kernel
theorem dX3_copyFrom_22 : decode cX3_copyFrom 22 = .ok (.getfield 15, 3) := by decide +kernel
theorem dX3_copyFrom_25 : decode cX3_copyFrom 25 = .ok (.iconst 0, 1) := by decide +kernel
theorem dX3_copyFrom_26 : decode cX3_copyFrom 26 = .ok (.sipush 400, 3) := by decide +kernel
theorem dX3_copyFrom_29 : decode cX3_copyFrom 29 = .ok (.invokestatic 30, 3) := by decide +kernel
theorem dX3_copyFrom_32 : decode cX3_copyFrom 32 = .ok (.aload_n 1, 1) := by decide +kernel
theorem dX3_copyFrom_33 : decode cX3_copyFrom 33 = .ok (.getfield 18, 3) := by decide +kernel
theorem dX3_copyFrom_36 : decode cX3_copyFrom 36 = .ok (.iconst 0, 1) := by decide +kernel
theorem dX3_copyFrom_37 : decode cX3_copyFrom 37 = .ok (.aload_n 0, 1) := by decide +kernel
theorem dX3_copyFrom_38 : decode cX3_copyFrom 38 = .ok (.getfield 18, 3) := by decide +kernel
theorem dX3_copyFrom_41 : decode cX3_copyFrom 41 = .ok (.iconst 0, 1) := by decide +kernel
theorem dX3_copyFrom_42 : decode cX3_copyFrom 42 = .ok (.sipush 400, 3) := by decide +kernel
theorem dX3_copyFrom_45 : decode cX3_copyFrom 45 = .ok (.invokestatic 30, 3) := by decide +kernel
theorem dX3_copyFrom_48 : decode cX3_copyFrom 48 = .ok (.aload_n 1, 1) := by decide +kernel
theorem dX3_copyFrom_49 : decode cX3_copyFrom 49 = .ok (.getfield 21, 3) := by decide +kernel
theorem dX3_copyFrom_52 : decode cX3_copyFrom 52 = .ok (.iconst 0, 1) := by decide +kernel
theorem dX3_copyFrom_53 : decode cX3_copyFrom 53 = .ok (.aload_n 0, 1) := by decide +kernel
theorem dX3_copyFrom_54 : decode cX3_copyFrom 54 = .ok (.getfield 21, 3) := by decide +kernel
theorem dX3_copyFrom_57 : decode cX3_copyFrom 57 = .ok (.iconst 0, 1) := by decide +kernel
theorem dX3_copyFrom_58 : decode cX3_copyFrom 58 = .ok (.bipush 10, 2) := by decide +kernel
theorem dX3_copyFrom_60 : decode cX3_copyFrom 60 = .ok (.invokestatic 30, 3) := by decide +kernel
theorem dX3_copyFrom_63 : decode cX3_copyFrom 63 = .ok (.return_, 1) := by decide +kernel
theorem dX3_clear_0 : decode cX3_clear 0 = .ok (.aload_n 0, 1) := by decide +kernel
theorem dX3_clear_1 : decode cX3_clear 1 = .ok (.getfield 9, 3) := by decide +kernel
theorem dX3_clear_4 : decode cX3_clear 4 = .ok (.iconst 0, 1) := by decide +kernel
theorem dX3_clear_5 : decode cX3_clear 5 = .ok (.invokestatic 24, 3) := by decide +kernel
theorem dX3_clear_8 : decode cX3_clear 8 = .ok (.aload_n 0, 1) := by decide +kernel
theorem dX3_clear_9 : decode cX3_clear 9 = .ok (.getfield 18, 3) := by decide +kernel
theorem dX3_clear_12 : decode cX3_clear 12 = .ok (.iconst 0, 1) := by decide +kernel
theorem dX3_clear_13 : decode cX3_clear 13 = .ok (.invokestatic 24, 3) := by decide +kernel
theorem dX3_clear_16 : decode cX3_clear 16 = .ok (.aload_n 0, 1) := by decide +kernel
theorem dX3_clear_17 : decode cX3_clear 17 = .ok (.getfield 21, 3) := by decide +kernel
theorem dX3_clear_20 : decode cX3_clear 20 = .ok (.bipush 40, 2) := by decide +kernel
theorem dX3_clear_22 : decode cX3_clear 22 = .ok (.invokestatic 24, 3) := by decide +kernel
theorem dX3_clear_25 : decode cX3_clear 25 = .ok (.return_, 1) := by decide +kernel
theorem dX3_hasRoom_0 : decode cX3_hasRoom 0 = .ok (.iload_n 1, 1) := by decide +kernel
theorem dX3_hasRoom_1 : decode cX3_hasRoom 1 = .ok (.ifCond .lt 23, 3) := by decide +kernel
theorem dX3_hasRoom_4 : decode cX3_hasRoom 4 = .ok (.iload_n 1, 1) := by decide +kernel
theorem dX3_hasRoom_5 : decode cX3_hasRoom 5 = .ok (.bipush 10, 2) := by decide +kernel
theorem dX3_hasRoom_7 : decode cX3_hasRoom 7 = .ok (.if_icmp .ge 17, 3) := by decide +kernel
theorem dX3_hasRoom_10 : decode cX3_hasRoom 10 = .ok (.aload_n 0, 1) := by decide +kernel
theorem dX3_hasRoom_11 : decode cX3_hasRoom 11 = .ok (.getfield 21, 3) := by decide +kernel
theorem dX3_hasRoom_14 : decode cX3_hasRoom 14 = .ok (.iload_n 1, 1) := by decide +kernel
theorem dX3_hasRoom_15 : decode cX3_hasRoom 15 = .ok (.iaload, 1) := by decide +kernel
theorem dX3_hasRoom_16 : decode cX3_hasRoom 16 = .ok (.iload_n 2, 1) := by decide +kernel
theorem dX3_hasRoom_17 : decode cX3_hasRoom 17 = .ok (.if_icmp .lt 7, 3) := by decide +kernel
theorem dX3_hasRoom_20 : decode cX3_hasRoom 20 = .ok (.iconst 1, 1) := by decide +kernel
theorem dX3_hasRoom_21 : decode cX3_hasRoom 21 = .ok (.goto 4, 3) := by decide +kernel
theorem dX3_hasRoom_24 : decode cX3_hasRoom 24 = .ok (.iconst 0, 1) := by decide +kernel
theorem dX3_hasRoom_25 : decode cX3_hasRoom 25 = .ok (.ireturn, 1) := by decide +kernel
theorem dX3_occupy_0 : decode cX3_occupy 0 = .ok (.iload_n 1, 1) := by decide +kernel
theorem dX3_occupy_1 : decode cX3_occupy 1 = .ok (.ifCond .lt 46, 3) := by decide +kernel
theorem dX3_occupy_4 : decode cX3_occupy 4 = .ok (.iload_n 1, 1) := by decide +kernel
theorem dX3_occupy_5 : decode cX3_occupy 5 = .ok (.sipush 400, 3) := by decide +kernel
theorem dX3_occupy_8 : decode cX3_occupy 8 = .ok (.if_icmp .ge 39, 3) := by decide +kernel
theorem dX3_occupy_11 : decode cX3_occupy 11 = .ok (.aload_n 0, 1) := by decide +kernel
theorem dX3_occupy_12 : decode cX3_occupy 12 = .ok (.getfield 9, 3) := by decide +kernel
theorem dX3_occupy_15 : decode cX3_occupy 15 = .ok (.iload_n 1, 1) := by decide +kernel
theorem dX3_occupy_16 : decode cX3_occupy 16 = .ok (.iload_n 2, 1) := by decide +kernel
theorem dX3_occupy_17 : decode cX3_occupy 17 = .ok (.iastore, 1) := by decide +kernel
theorem dX3_occupy_18 : decode cX3_occupy 18 = .ok (.aload_n 0, 1) := by decide +kernel
theorem dX3_occupy_19 : decode cX3_occupy 19 = .ok (.getfield 15, 3) := by decide +kernel
theorem dX3_occupy_22 : decode cX3_occupy 22 = .ok (.iload_n 1, 1) := by decide +kernel
theorem dX3_occupy_23 : decode cX3_occupy 23 = .ok (.iload_n 3, 1) := by decide +kernel
theorem dX3_occupy_24 : decode cX3_occupy 24 = .ok (.iastore, 1) := by decide +kernel
theorem dX3_occupy_25 : decode cX3_occupy 25 = .ok (.aload_n 0, 1) := by decide +kernel
theorem dX3_occupy_26 : decode cX3_occupy 26 = .ok (.getfield 18, 3) := by decide +kernel
theorem dX3_occupy_29 : decode cX3_occupy 29 = .ok (.iload_n 1, 1) := by decide +kernel
theorem dX3_occupy_30 : decode cX3_occupy 30 = .ok (.iload 4, 2) := by decide +kernel
theorem dX3_occupy_32 : decode cX3_occupy 32 = .ok (.iastore, 1) := by decide +kernel
theorem dX3_occupy_33 : decode cX3_occupy 33 = .ok (.aload_n 0, 1) := by decide +kernel
theorem dX3_occupy_34 : decode cX3_occupy 34 = .ok (.getfield 21, 3) := by decide +kernel
theorem dX3_occupy_37 : decode cX3_occupy 37 = .ok (.iload_n 1, 1) := by decide +kernel
theorem dX3_occupy_38 : decode cX3_occupy 38 = .ok (.bipush 40, 2) := by decide +kernel
theorem dX3_occupy_40 : decode cX3_occupy 40 = .ok (.idiv, 1) := by decide +kernel
theorem dX3_occupy_41 : decode cX3_occupy 41 = .ok (.dup2, 1) := by decide +kernel
theorem dX3_occupy_42 : decode cX3_occupy 42 = .ok (.iaload, 1) := by decide +kernel
theorem dX3_occupy_43 : decode cX3_occupy 43 = .ok (.iload 4, 2) := by decide +kernel
theorem dX3_occupy_45 : decode cX3_occupy 45 = .ok (.isub, 1) := by decide +kernel
theorem dX3_occupy_46 : decode cX3_occupy 46 = .ok (.iastore, 1) := by decide +kernel
theorem dX3_occupy_47 : decode cX3_occupy 47 = .ok (.return_, 1) := by decide +kernel
theorem dX3_vacate_0 : decode cX3_vacate 0 = .ok (.iload_n 1, 1) := by decide +kernel
theorem dX3_vacate_1 : decode cX3_vacate 1 = .ok (.ifCond .lt 42, 3) := by decide +kernel
theorem dX3_vacate_4 : decode cX3_vacate 4 = .ok (.iload_n 1, 1) := by decide +kernel
theorem dX3_vacate_5 : decode cX3_vacate 5 = .ok (.sipush 400, 3) := by decide +kernel
theorem dX3_vacate_8 : decode cX3_vacate 8 = .ok (.if_icmp .ge 35, 3) := by decide +kernel
theorem dX3_vacate_11 : decode cX3_vacate 11 = .ok (.aload_n 0, 1) := by decide +kernel
theorem dX3_vacate_12 : decode cX3_vacate 12 = .ok (.getfield 21, 3) := by decide +kernel
theorem dX3_vacate_15 : decode cX3_vacate 15 = .ok (.iload_n 1, 1) := by decide +kernel
theorem dX3_vacate_16 : decode cX3_vacate 16 = .ok (.bipush 40, 2) := by decide +kernel
theorem dX3_vacate_18 : decode cX3_vacate 18 = .ok (.idiv, 1) := by decide +kernel
theorem dX3_vacate_19 : decode cX3_vacate 19 = .ok (.dup2, 1) := by decide +kernel
theorem dX3_vacate_20 : decode cX3_vacate 20 = .ok (.iaload, 1) := by decide +kernel
theorem dX3_vacate_21 : decode cX3_vacate 21 = .ok (.aload_n 0, 1) := by decide +kernel
theorem dX3_vacate_22 : decode cX3_vacate 22 = .ok (.getfield 18, 3) := by decide +kernel
theorem dX3_vacate_25 : decode cX3_vacate 25 = .ok (.iload_n 1, 1) := by decide +kernel
theorem dX3_vacate_26 : decode cX3_vacate 26 = .ok (.iaload, 1) := by decide +kernel
theorem dX3_vacate_27 : decode cX3_vacate 27 = .ok (.iadd, 1) := by decide +kernel
theorem dX3_vacate_28 : decode cX3_vacate 28 = .ok (.iastore, 1) := by decide +kernel
theorem dX3_vacate_29 : decode cX3_vacate 29 = .ok (.aload_n 0, 1) := by decide +kernel
theorem dX3_vacate_30 : decode cX3_vacate 30 = .ok (.getfield 9, 3) := by decide +kernel
theorem dX3_vacate_33 : decode cX3_vacate 33 = .ok (.iload_n 1, 1) := by decide +kernel
theorem dX3_vacate_34 : decode cX3_vacate 34 = .ok (.iconst 0, 1) := by decide +kernel
theorem dX3_vacate_35 : decode cX3_vacate 35 = .ok (.iastore, 1) := by decide +kernel
theorem dX3_vacate_36 : decode cX3_vacate 36 = .ok (.aload_n 0, 1) := by decide +kernel
theorem dX3_vacate_37 : decode cX3_vacate 37 = .ok (.getfield 18, 3) := by decide +kernel
theorem dX3_vacate_40 : decode cX3_vacate 40 = .ok (.iload_n 1, 1) := by decide +kernel
theorem dX3_vacate_41 : decode cX3_vacate 41 = .ok (.iconst 0, 1) := by decide +kernel
theorem dX3_vacate_42 : decode cX3_vacate 42 = .ok (.iastore, 1) := by decide +kernel
theorem dX3_vacate_43 : decode cX3_vacate 43 = .ok (.return_, 1) := by decide +kernel
theorem dX3_place_0 : decode cX3_place 0 = .ok (.iconst 0, 1) := by decide +kernel
theorem dX3_place_1 : decode cX3_place 1 = .ok (.istore 4, 2) := by decide +kernel
theorem dX3_place_3 : decode cX3_place 3 = .ok (.iload 4, 2) := by decide +kernel
theorem dX3_place_5 : decode cX3_place 5 = .ok (.bipush 10, 2) := by decide +kernel
theorem dX3_place_7 : decode cX3_place 7 = .ok (.if_icmp .ge 39, 3) := by decide +kernel
theorem dX3_place_10 : decode cX3_place 10 = .ok (.aload_n 0, 1) := by decide +kernel
theorem dX3_place_11 : decode cX3_place 11 = .ok (.iload 4, 2) := by decide +kernel
theorem dX3_place_13 : decode cX3_place 13 = .ok (.iload_n 3, 1) := by decide +kernel
theorem dX3_place_14 : decode cX3_place 14 = .ok (.invokevirtual 36, 3) := by decide +kernel
theorem dX3_place_17 : decode cX3_place 17 = .ok (.ifCond .eq 23, 3) := by decide +kernel
theorem dX3_place_20 : decode cX3_place 20 = .ok (.aload_n 0, 1) := by decide +kernel
theorem dX3_place_21 : decode cX3_place 21 = .ok (.iload 4, 2) := by decide +kernel
theorem dX3_place_23 : decode cX3_place 23 = .ok (.invokevirtual 40, 3) := by decide +kernel
theorem dX3_place_26 : decode cX3_place 26 = .ok (.istore 5, 2) := by decide +kernel
theorem dX3_place_28 : decode cX3_place 28 = .ok (.aload_n 0, 1) := by decide +kernel
theorem dX3_place_29 : decode cX3_place 29 = .ok (.iload 5, 2) := by decide +kernel
theorem dX3_place_31 : decode cX3_place 31 = .ok (.iload_n 1, 1) := by decide +kernel
theorem dX3_place_32 : decode cX3_place 32 = .ok (.iload_n 2, 1) := by decide +kernel
theorem dX3_place_33 : decode cX3_place 33 = .ok (.iload_n 3, 1) := by decide +kernel
theorem dX3_place_34 : decode cX3_place 34 = .ok (.invokevirtual 44, 3) := by decide +kernel
theorem dX3_place_37 : decode cX3_place 37 = .ok (.iload 5, 2) := by decide +kernel
theorem dX3_place_39 : decode cX3_place 39 = .ok (.ireturn, 1) := by decide +kernel
theorem dX3_place_40 : decode cX3_place 40 = .ok (.iinc 4 1, 3) := by decide +kernel
theorem dX3_place_43 : decode cX3_place 43 = .ok (.goto (-40), 3) := by decide +kernel
theorem dX3_place_46 : decode cX3_place 46 = .ok (.iconst (-1), 1) := by decide +kernel
theorem dX3_place_47 : decode cX3_place 47 = .ok (.ireturn, 1) := by decide +kernel
theorem dX3_lowestGap_0 : decode cX3_lowestGap 0 = .ok (.iconst 0, 1) := by decide +kernel
theorem dX3_lowestGap_1 : decode cX3_lowestGap 1 = .ok (.istore_n 2, 1) := by decide +kernel
theorem dX3_lowestGap_2 : decode cX3_lowestGap 2 = .ok (.iload_n 2, 1) := by decide +kernel
theorem dX3_lowestGap_3 : decode cX3_lowestGap 3 = .ok (.bipush 40, 2) := by decide +kernel
theorem dX3_lowestGap_5 : decode cX3_lowestGap 5 = .ok (.if_icmp .ge 29, 3) := by decide +kernel
theorem dX3_lowestGap_8 : decode cX3_lowestGap 8 = .ok (.iload_n 1, 1) := by decide +kernel
theorem dX3_lowestGap_9 : decode cX3_lowestGap 9 = .ok (.bipush 40, 2) := by decide +kernel
theorem dX3_lowestGap_11 : decode cX3_lowestGap 11 = .ok (.imul, 1) := by decide +kernel
theorem dX3_lowestGap_12 : decode cX3_lowestGap 12 = .ok (.iload_n 2, 1) := by decide +kernel
theorem dX3_lowestGap_13 : decode cX3_lowestGap 13 = .ok (.iadd, 1) := by decide +kernel
theorem dX3_lowestGap_14 : decode cX3_lowestGap 14 = .ok (.istore_n 3, 1) := by decide +kernel
theorem dX3_lowestGap_15 : decode cX3_lowestGap 15 = .ok (.aload_n 0, 1) := by decide +kernel
theorem dX3_lowestGap_16 : decode cX3_lowestGap 16 = .ok (.getfield 9, 3) := by decide +kernel
theorem dX3_lowestGap_19 : decode cX3_lowestGap 19 = .ok (.iload_n 3, 1) := by decide +kernel
theorem dX3_lowestGap_20 : decode cX3_lowestGap 20 = .ok (.invokestatic 48, 3) := by decide +kernel
theorem dX3_lowestGap_23 : decode cX3_lowestGap 23 = .ok (.ifCond .ne 5, 3) := by decide +kernel
theorem dX3_lowestGap_26 : decode cX3_lowestGap 26 = .ok (.iload_n 3, 1) := by decide +kernel
theorem dX3_lowestGap_27 : decode cX3_lowestGap 27 = .ok (.ireturn, 1) := by decide +kernel
theorem dX3_lowestGap_28 : decode cX3_lowestGap 28 = .ok (.iinc 2 1, 3) := by decide +kernel
theorem dX3_lowestGap_31 : decode cX3_lowestGap 31 = .ok (.goto (-29), 3) := by decide +kernel
theorem dX3_lowestGap_34 : decode cX3_lowestGap 34 = .ok (.iconst (-1), 1) := by decide +kernel
theorem dX3_lowestGap_35 : decode cX3_lowestGap 35 = .ok (.ireturn, 1) := by decide +kernel
theorem dX3_slotsOf_0 : decode cX3_slotsOf 0 = .ok (.bipush 39, 2) := by decide +kernel
theorem dX3_slotsOf_2 : decode cX3_slotsOf 2 = .ok (.istore_n 2, 1) := by decide +kernel
theorem dX3_slotsOf_3 : decode cX3_slotsOf 3 = .ok (.iload_n 2, 1) := by decide +kernel
theorem dX3_slotsOf_4 : decode cX3_slotsOf 4 = .ok (.ifCond .lt 29, 3) := by decide +kernel
theorem dX3_slotsOf_7 : decode cX3_slotsOf 7 = .ok (.aload_n 0, 1) := by decide +kernel
theorem dX3_slotsOf_8 : decode cX3_slotsOf 8 = .ok (.getfield 9, 3) := by decide +kernel
theorem dX3_slotsOf_11 : decode cX3_slotsOf 11 = .ok (.iload_n 1, 1) := by decide +kernel
theorem dX3_slotsOf_12 : decode cX3_slotsOf 12 = .ok (.bipush 40, 2) := by decide +kernel
theorem dX3_slotsOf_14 : decode cX3_slotsOf 14 = .ok (.imul, 1) := by decide +kernel
theorem dX3_slotsOf_15 : decode cX3_slotsOf 15 = .ok (.iload_n 2, 1) := by decide +kernel
theorem dX3_slotsOf_16 : decode cX3_slotsOf 16 = .ok (.iadd, 1) := by decide +kernel
theorem dX3_slotsOf_17 : decode cX3_slotsOf 17 = .ok (.invokestatic 48, 3) := by decide +kernel
theorem dX3_slotsOf_20 : decode cX3_slotsOf 20 = .ok (.ifCond .eq 7, 3) := by decide +kernel
theorem dX3_slotsOf_23 : decode cX3_slotsOf 23 = .ok (.iload_n 2, 1) := by decide +kernel
theorem dX3_slotsOf_24 : decode cX3_slotsOf 24 = .ok (.iconst 1, 1) := by decide +kernel
theorem dX3_slotsOf_25 : decode cX3_slotsOf 25 = .ok (.iadd, 1) := by decide +kernel
theorem dX3_slotsOf_26 : decode cX3_slotsOf 26 = .ok (.ireturn, 1) := by decide +kernel
theorem dX3_slotsOf_27 : decode cX3_slotsOf 27 = .ok (.iinc 2 (-1), 3) := by decide +kernel
theorem dX3_slotsOf_30 : decode cX3_slotsOf 30 = .ok (.goto (-27), 3) := by decide +kernel
theorem dX3_slotsOf_33 : decode cX3_slotsOf 33 = .ok (.iconst 0, 1) := by decide +kernel
theorem dX3_slotsOf_34 : decode cX3_slotsOf 34 = .ok (.ireturn, 1) := by decide +kernel
theorem dX3_thingsOn_0 : decode cX3_thingsOn 0 = .ok (.aload_n 0, 1) := by decide +kernel
theorem dX3_thingsOn_1 : decode cX3_thingsOn 1 = .ok (.iload_n 1, 1) := by decide +kernel
theorem dX3_thingsOn_2 : decode cX3_thingsOn 2 = .ok (.invokevirtual 52, 3) := by decide +kernel
theorem dX3_thingsOn_5 : decode cX3_thingsOn 5 = .ok (.istore_n 3, 1) := by decide +kernel
theorem dX3_thingsOn_6 : decode cX3_thingsOn 6 = .ok (.iconst 0, 1) := by decide +kernel
theorem dX3_thingsOn_7 : decode cX3_thingsOn 7 = .ok (.istore 4, 2) := by decide +kernel
theorem dX3_thingsOn_9 : decode cX3_thingsOn 9 = .ok (.iconst 0, 1) := by decide +kernel
theorem dX3_thingsOn_10 : decode cX3_thingsOn 10 = .ok (.istore 5, 2) := by decide +kernel
theorem dX3_thingsOn_12 : decode cX3_thingsOn 12 = .ok (.iload 5, 2) := by decide +kernel
theorem dX3_thingsOn_14 : decode cX3_thingsOn 14 = .ok (.iload_n 3, 1) := by decide +kernel
theorem dX3_thingsOn_15 : decode cX3_thingsOn 15 = .ok (.if_icmp .ge 30, 3) := by decide +kernel
theorem dX3_thingsOn_18 : decode cX3_thingsOn 18 = .ok (.aload_n 0, 1) := by decide +kernel
theorem dX3_thingsOn_19 : decode cX3_thingsOn 19 = .ok (.getfield 9, 3) := by decide +kernel
theorem dX3_thingsOn_22 : decode cX3_thingsOn 22 = .ok (.iload_n 1, 1) := by decide +kernel
theorem dX3_thingsOn_23 : decode cX3_thingsOn 23 = .ok (.bipush 40, 2) := by decide +kernel
theorem dX3_thingsOn_25 : decode cX3_thingsOn 25 = .ok (.imul, 1) := by decide +kernel
theorem dX3_thingsOn_26 : decode cX3_thingsOn 26 = .ok (.iload 5, 2) := by decide +kernel
theorem dX3_thingsOn_28 : decode cX3_thingsOn 28 = .ok (.iadd, 1) := by decide +kernel
theorem dX3_thingsOn_29 : decode cX3_thingsOn 29 = .ok (.invokestatic 48, 3) := by decide +kernel
theorem dX3_thingsOn_32 : decode cX3_thingsOn 32 = .ok (.iload_n 2, 1) := by decide +kernel
theorem dX3_thingsOn_33 : decode cX3_thingsOn 33 = .ok (.if_icmp .ne 6, 3) := by decide +kernel
theorem dX3_thingsOn_36 : decode cX3_thingsOn 36 = .ok (.iinc 4 1, 3) := by decide +kernel
theorem dX3_thingsOn_39 : decode cX3_thingsOn 39 = .ok (.iinc 5 1, 3) := by decide +kernel
theorem dX3_thingsOn_42 : decode cX3_thingsOn 42 = .ok (.goto (-30), 3) := by decide +kernel
theorem dX3_thingsOn_45 : decode cX3_thingsOn 45 = .ok (.iload 4, 2) := by decide +kernel
theorem dX3_thingsOn_47 : decode cX3_thingsOn 47 = .ok (.ireturn, 1) := by decide +kernel
theorem dX3_thingsInAll_0 : decode cX3_thingsInAll 0 = .ok (.iconst 0, 1) := by decide +kernel
theorem dX3_thingsInAll_1 : decode cX3_thingsInAll 1 = .ok (.istore_n 2, 1) := by decide +kernel
theorem dX3_thingsInAll_2 : decode cX3_thingsInAll 2 = .ok (.iconst 0, 1) := by decide +kernel
theorem dX3_thingsInAll_3 : decode cX3_thingsInAll 3 = .ok (.istore_n 3, 1) := by decide +kernel
theorem dX3_thingsInAll_4 : decode cX3_thingsInAll 4 = .ok (.iload_n 3, 1) := by decide +kernel
theorem dX3_thingsInAll_5 : decode cX3_thingsInAll 5 = .ok (.bipush 10, 2) := by decide +kernel
theorem dX3_thingsInAll_7 : decode cX3_thingsInAll 7 = .ok (.if_icmp .ge 18, 3) := by decide +kernel
theorem dX3_thingsInAll_10 : decode cX3_thingsInAll 10 = .ok (.iload_n 2, 1) := by decide +kernel
theorem dX3_thingsInAll_11 : decode cX3_thingsInAll 11 = .ok (.aload_n 0, 1) := by decide +kernel
theorem dX3_thingsInAll_12 : decode cX3_thingsInAll 12 = .ok (.iload_n 3, 1) := by decide +kernel
theorem dX3_thingsInAll_13 : decode cX3_thingsInAll 13 = .ok (.iload_n 1, 1) := by decide +kernel
theorem dX3_thingsInAll_14 : decode cX3_thingsInAll 14 = .ok (.invokevirtual 55, 3) := by decide +kernel
theorem dX3_thingsInAll_17 : decode cX3_thingsInAll 17 = .ok (.iadd, 1) := by decide +kernel
theorem dX3_thingsInAll_18 : decode cX3_thingsInAll 18 = .ok (.istore_n 2, 1) := by decide +kernel
theorem dX3_thingsInAll_19 : decode cX3_thingsInAll 19 = .ok (.iinc 3 1, 3) := by decide +kernel
theorem dX3_thingsInAll_22 : decode cX3_thingsInAll 22 = .ok (.goto (-18), 3) := by decide +kernel
theorem dX3_thingsInAll_25 : decode cX3_thingsInAll 25 = .ok (.iload_n 2, 1) := by decide +kernel
theorem dX3_thingsInAll_26 : decode cX3_thingsInAll 26 = .ok (.ireturn, 1) := by decide +kernel
theorem dX3_pagesInUse_0 : decode cX3_pagesInUse 0 = .ok (.iconst 0, 1) := by decide +kernel
theorem dX3_pagesInUse_1 : decode cX3_pagesInUse 1 = .ok (.istore_n 1, 1) := by decide +kernel
theorem dX3_pagesInUse_2 : decode cX3_pagesInUse 2 = .ok (.iconst 0, 1) := by decide +kernel
theorem dX3_pagesInUse_3 : decode cX3_pagesInUse 3 = .ok (.istore_n 2, 1) := by decide +kernel
theorem dX3_pagesInUse_4 : decode cX3_pagesInUse 4 = .ok (.iload_n 2, 1) := by decide +kernel
theorem dX3_pagesInUse_5 : decode cX3_pagesInUse 5 = .ok (.bipush 10, 2) := by decide +kernel
theorem dX3_pagesInUse_7 : decode cX3_pagesInUse 7 = .ok (.if_icmp .ge 23, 3) := by decide +kernel
theorem dX3_pagesInUse_10 : decode cX3_pagesInUse 10 = .ok (.aload_n 0, 1) := by decide +kernel
theorem dX3_pagesInUse_11 : decode cX3_pagesInUse 11 = .ok (.getfield 21, 3) := by decide +kernel
theorem dX3_pagesInUse_14 : decode cX3_pagesInUse 14 = .ok (.iload_n 2, 1) := by decide +kernel
theorem dX3_pagesInUse_15 : decode cX3_pagesInUse 15 = .ok (.iaload, 1) := by decide +kernel
theorem dX3_pagesInUse_16 : decode cX3_pagesInUse 16 = .ok (.bipush 40, 2) := by decide +kernel
theorem dX3_pagesInUse_18 : decode cX3_pagesInUse 18 = .ok (.if_icmp .ge 6, 3) := by decide +kernel
theorem dX3_pagesInUse_21 : decode cX3_pagesInUse 21 = .ok (.iinc 1 1, 3) := by decide +kernel
theorem dX3_pagesInUse_24 : decode cX3_pagesInUse 24 = .ok (.iinc 2 1, 3) := by decide +kernel
theorem dX3_pagesInUse_27 : decode cX3_pagesInUse 27 = .ok (.goto (-23), 3) := by decide +kernel
theorem dX3_pagesInUse_30 : decode cX3_pagesInUse 30 = .ok (.iload_n 1, 1) := by decide +kernel
theorem dX3_pagesInUse_31 : decode cX3_pagesInUse 31 = .ok (.ireturn, 1) := by decide +kernel
theorem dX3_freeInAll_0 : decode cX3_freeInAll 0 = .ok (.iconst 0, 1) := by decide +kernel
theorem dX3_freeInAll_1 : decode cX3_freeInAll 1 = .ok (.istore_n 1, 1) := by decide +kernel
theorem dX3_freeInAll_2 : decode cX3_freeInAll 2 = .ok (.iconst 0, 1) := by decide +kernel
theorem dX3_freeInAll_3 : decode cX3_freeInAll 3 = .ok (.istore_n 2, 1) := by decide +kernel
theorem dX3_freeInAll_4 : decode cX3_freeInAll 4 = .ok (.iload_n 2, 1) := by decide +kernel
theorem dX3_freeInAll_5 : decode cX3_freeInAll 5 = .ok (.bipush 10, 2) := by decide +kernel
theorem dX3_freeInAll_7 : decode cX3_freeInAll 7 = .ok (.if_icmp .ge 18, 3) := by decide +kernel
theorem dX3_freeInAll_10 : decode cX3_freeInAll 10 = .ok (.iload_n 1, 1) := by decide +kernel
theorem dX3_freeInAll_11 : decode cX3_freeInAll 11 = .ok (.aload_n 0, 1) := by decide +kernel
theorem dX3_freeInAll_12 : decode cX3_freeInAll 12 = .ok (.getfield 21, 3) := by decide +kernel
theorem dX3_freeInAll_15 : decode cX3_freeInAll 15 = .ok (.iload_n 2, 1) := by decide +kernel
theorem dX3_freeInAll_16 : decode cX3_freeInAll 16 = .ok (.iaload, 1) := by decide +kernel
theorem dX3_freeInAll_17 : decode cX3_freeInAll 17 = .ok (.iadd, 1) := by decide +kernel
theorem dX3_freeInAll_18 : decode cX3_freeInAll 18 = .ok (.istore_n 1, 1) := by decide +kernel
theorem dX3_freeInAll_19 : decode cX3_freeInAll 19 = .ok (.iinc 2 1, 3) := by decide +kernel
theorem dX3_freeInAll_22 : decode cX3_freeInAll 22 = .ok (.goto (-18), 3) := by decide +kernel
theorem dX3_freeInAll_25 : decode cX3_freeInAll 25 = .ok (.iload_n 1, 1) := by decide +kernel
theorem dX3_freeInAll_26 : decode cX3_freeInAll 26 = .ok (.ireturn, 1) := by decide +kernel
theorem dX7_init_0 : decode cX7_init 0 = .ok (.aload_n 0, 1) := by decide +kernel
theorem dX7_init_1 : decode cX7_init 1 = .ok (.invokespecial 3, 3) := by decide +kernel
theorem dX7_init_4 : decode cX7_init 4 = .ok (.aload_n 0, 1) := by decide +kernel
theorem dX7_init_5 : decode cX7_init 5 = .ok (.iconst (-1), 1) := by decide +kernel
theorem dX7_init_6 : decode cX7_init 6 = .ok (.putfield 9, 3) := by decide +kernel
theorem dX7_init_9 : decode cX7_init 9 = .ok (.aload_n 0, 1) := by decide +kernel
theorem dX7_init_10 : decode cX7_init 10 = .ok (.iconst 0, 1) := by decide +kernel
theorem dX7_init_11 : decode cX7_init 11 = .ok (.putfield 15, 3) := by decide +kernel
theorem dX7_init_14 : decode cX7_init 14 = .ok (.aload_n 0, 1) := by decide +kernel
theorem dX7_init_15 : decode cX7_init 15 = .ok (.iconst (-1), 1) := by decide +kernel
theorem dX7_init_16 : decode cX7_init 16 = .ok (.putfield 18, 3) := by decide +kernel
theorem dX7_init_19 : decode cX7_init 19 = .ok (.aload_n 0, 1) := by decide +kernel
theorem dX7_init_20 : decode cX7_init 20 = .ok (.iconst (-1), 1) := by decide +kernel
theorem dX7_init_21 : decode cX7_init 21 = .ok (.putfield 21, 3) := by decide +kernel
theorem dX7_init_24 : decode cX7_init 24 = .ok (.aload_n 0, 1) := by decide +kernel
theorem dX7_init_25 : decode cX7_init 25 = .ok (.iconst 0, 1) := by decide +kernel
theorem dX7_init_26 : decode cX7_init 26 = .ok (.putfield 24, 3) := by decide +kernel
theorem dX7_init_29 : decode cX7_init 29 = .ok (.aload_n 0, 1) := by decide +kernel
theorem dX7_init_30 : decode cX7_init 30 = .ok (.bipush 40, 2) := by decide +kernel
theorem dX7_init_32 : decode cX7_init 32 = .ok (.newarray .int, 2) := by decide +kernel
theorem dX7_init_34 : decode cX7_init 34 = .ok (.putfield 27, 3) := by decide +kernel
theorem dX7_init_37 : decode cX7_init 37 = .ok (.aload_n 0, 1) := by decide +kernel
theorem dX7_init_38 : decode cX7_init 38 = .ok (.bipush 40, 2) := by decide +kernel
theorem dX7_init_40 : decode cX7_init 40 = .ok (.newarray .int, 2) := by decide +kernel
theorem dX7_init_42 : decode cX7_init 42 = .ok (.putfield 31, 3) := by decide +kernel
theorem dX7_init_45 : decode cX7_init 45 = .ok (.return_, 1) := by decide +kernel
theorem dX7_copyFrom_0 : decode cX7_copyFrom 0 = .ok (.aload_n 0, 1) := by decide +kernel
theorem dX7_copyFrom_1 : decode cX7_copyFrom 1 = .ok (.aload_n 1, 1) := by decide +kernel
theorem dX7_copyFrom_2 : decode cX7_copyFrom 2 = .ok (.getfield 9, 3) := by decide +kernel
theorem dX7_copyFrom_5 : decode cX7_copyFrom 5 = .ok (.putfield 9, 3) := by decide +kernel
theorem dX7_copyFrom_8 : decode cX7_copyFrom 8 = .ok (.aload_n 0, 1) := by decide +kernel
theorem dX7_copyFrom_9 : decode cX7_copyFrom 9 = .ok (.aload_n 1, 1) := by decide +kernel
theorem dX7_copyFrom_10 : decode cX7_copyFrom 10 = .ok (.getfield 15, 3) := by decide +kernel
theorem dX7_copyFrom_13 : decode cX7_copyFrom 13 = .ok (.putfield 15, 3) := by decide +kernel
theorem dX7_copyFrom_16 : decode cX7_copyFrom 16 = .ok (.aload_n 0, 1) := by decide +kernel
theorem dX7_copyFrom_17 : decode cX7_copyFrom 17 = .ok (.aload_n 1, 1) := by decide +kernel
theorem dX7_copyFrom_18 : decode cX7_copyFrom 18 = .ok (.getfield 18, 3) := by decide +kernel
theorem dX7_copyFrom_21 : decode cX7_copyFrom 21 = .ok (.putfield 18, 3) := by decide +kernel
theorem dX7_copyFrom_24 : decode cX7_copyFrom 24 = .ok (.aload_n 0, 1) := by decide +kernel
theorem dX7_copyFrom_25 : decode cX7_copyFrom 25 = .ok (.aload_n 1, 1) := by decide +kernel
theorem dX7_copyFrom_26 : decode cX7_copyFrom 26 = .ok (.getfield 21, 3) := by decide +kernel
theorem dX7_copyFrom_29 : decode cX7_copyFrom 29 = .ok (.putfield 21, 3) := by decide +kernel
theorem dX7_copyFrom_32 : decode cX7_copyFrom 32 = .ok (.aload_n 0, 1) := by decide +kernel
theorem dX7_copyFrom_33 : decode cX7_copyFrom 33 = .ok (.aload_n 1, 1) := by decide +kernel
theorem dX7_copyFrom_34 : decode cX7_copyFrom 34 = .ok (.getfield 24, 3) := by decide +kernel
theorem dX7_copyFrom_37 : decode cX7_copyFrom 37 = .ok (.putfield 24, 3) := by decide +kernel
theorem dX7_copyFrom_40 : decode cX7_copyFrom 40 = .ok (.aload_n 1, 1) := by decide +kernel
theorem dX7_copyFrom_41 : decode cX7_copyFrom 41 = .ok (.getfield 27, 3) := by decide +kernel
theorem dX7_copyFrom_44 : decode cX7_copyFrom 44 = .ok (.iconst 0, 1) := by decide +kernel
theorem dX7_copyFrom_45 : decode cX7_copyFrom 45 = .ok (.aload_n 0, 1) := by decide +kernel
theorem dX7_copyFrom_46 : decode cX7_copyFrom 46 = .ok (.getfield 27, 3) := by decide +kernel
theorem dX7_copyFrom_49 : decode cX7_copyFrom 49 = .ok (.iconst 0, 1) := by decide +kernel
theorem dX7_copyFrom_50 : decode cX7_copyFrom 50 = .ok (.bipush 40, 2) := by decide +kernel
theorem dX7_copyFrom_52 : decode cX7_copyFrom 52 = .ok (.invokestatic 34, 3) := by decide +kernel
theorem dX7_copyFrom_55 : decode cX7_copyFrom 55 = .ok (.aload_n 1, 1) := by decide +kernel
theorem dX7_copyFrom_56 : decode cX7_copyFrom 56 = .ok (.getfield 31, 3) := by decide +kernel
theorem dX7_copyFrom_59 : decode cX7_copyFrom 59 = .ok (.iconst 0, 1) := by decide +kernel
theorem dX7_copyFrom_60 : decode cX7_copyFrom 60 = .ok (.aload_n 0, 1) := by decide +kernel
theorem dX7_copyFrom_61 : decode cX7_copyFrom 61 = .ok (.getfield 31, 3) := by decide +kernel
theorem dX7_copyFrom_64 : decode cX7_copyFrom 64 = .ok (.iconst 0, 1) := by decide +kernel
theorem dX7_copyFrom_65 : decode cX7_copyFrom 65 = .ok (.bipush 40, 2) := by decide +kernel
theorem dX7_copyFrom_67 : decode cX7_copyFrom 67 = .ok (.invokestatic 34, 3) := by decide +kernel
theorem dX7_copyFrom_70 : decode cX7_copyFrom 70 = .ok (.return_, 1) := by decide +kernel
theorem dX7_hasMoved_0 : decode cX7_hasMoved 0 = .ok (.aload_n 0, 1) := by decide +kernel
theorem dX7_hasMoved_1 : decode cX7_hasMoved 1 = .ok (.getfield 21, 3) := by decide +kernel
theorem dX7_hasMoved_4 : decode cX7_hasMoved 4 = .ok (.aload_n 0, 1) := by decide +kernel
theorem dX7_hasMoved_5 : decode cX7_hasMoved 5 = .ok (.getfield 18, 3) := by decide +kernel
theorem dX7_hasMoved_8 : decode cX7_hasMoved 8 = .ok (.if_icmp .eq 7, 3) := by decide +kernel
theorem dX7_hasMoved_11 : decode cX7_hasMoved 11 = .ok (.iconst 1, 1) := by decide +kernel
theorem dX7_hasMoved_12 : decode cX7_hasMoved 12 = .ok (.goto 4, 3) := by decide +kernel
theorem dX7_hasMoved_15 : decode cX7_hasMoved 15 = .ok (.iconst 0, 1) := by decide +kernel
theorem dX7_hasMoved_16 : decode cX7_hasMoved 16 = .ok (.ireturn, 1) := by decide +kernel
theorem dX7_cost_0 : decode cX7_cost 0 = .ok (.aload_n 0, 1) := by decide +kernel
theorem dX7_cost_1 : decode cX7_cost 1 = .ok (.getfield 21, 3) := by decide +kernel
theorem dX7_cost_4 : decode cX7_cost 4 = .ok (.bipush 40, 2) := by decide +kernel
theorem dX7_cost_6 : decode cX7_cost 6 = .ok (.idiv, 1) := by decide +kernel
theorem dX7_cost_7 : decode cX7_cost 7 = .ok (.istore_n 1, 1) := by decide +kernel
theorem dX7_cost_8 : decode cX7_cost 8 = .ok (.iload_n 1, 1) := by decide +kernel
theorem dX7_cost_9 : decode cX7_cost 9 = .ok (.aload_n 0, 1) := by decide +kernel
theorem dX7_cost_10 : decode cX7_cost 10 = .ok (.getfield 18, 3) := by decide +kernel
theorem dX7_cost_13 : decode cX7_cost 13 = .ok (.bipush 40, 2) := by decide +kernel
theorem dX7_cost_15 : decode cX7_cost 15 = .ok (.idiv, 1) := by decide +kernel
theorem dX7_cost_16 : decode cX7_cost 16 = .ok (.if_icmp .ne 7, 3) := by decide +kernel
theorem dX7_cost_19 : decode cX7_cost 19 = .ok (.iconst 1, 1) := by decide +kernel
theorem dX7_cost_20 : decode cX7_cost 20 = .ok (.goto 4, 3) := by decide +kernel
theorem dX7_cost_23 : decode cX7_cost 23 = .ok (.iconst 2, 1) := by decide +kernel
theorem dX7_cost_24 : decode cX7_cost 24 = .ok (.istore_n 2, 1) := by decide +kernel
theorem dX7_cost_25 : decode cX7_cost 25 = .ok (.iconst 0, 1) := by decide +kernel
theorem dX7_cost_26 : decode cX7_cost 26 = .ok (.istore_n 3, 1) := by decide +kernel
theorem dX7_cost_27 : decode cX7_cost 27 = .ok (.iload_n 3, 1) := by decide +kernel
theorem dX7_cost_28 : decode cX7_cost 28 = .ok (.aload_n 0, 1) := by decide +kernel
theorem dX7_cost_29 : decode cX7_cost 29 = .ok (.getfield 24, 3) := by decide +kernel
theorem dX7_cost_32 : decode cX7_cost 32 = .ok (.if_icmp .ge 34, 3) := by decide +kernel
theorem dX7_cost_35 : decode cX7_cost 35 = .ok (.aload_n 0, 1) := by decide +kernel
theorem dX7_cost_36 : decode cX7_cost 36 = .ok (.getfield 27, 3) := by decide +kernel
theorem dX7_cost_39 : decode cX7_cost 39 = .ok (.iload_n 3, 1) := by decide +kernel
theorem dX7_cost_40 : decode cX7_cost 40 = .ok (.invokestatic 40, 3) := by decide +kernel
theorem dX7_cost_43 : decode cX7_cost 43 = .ok (.bipush 40, 2) := by decide +kernel
theorem dX7_cost_45 : decode cX7_cost 45 = .ok (.idiv, 1) := by decide +kernel
theorem dX7_cost_46 : decode cX7_cost 46 = .ok (.istore 4, 2) := by decide +kernel
theorem dX7_cost_48 : decode cX7_cost 48 = .ok (.iload 4, 2) := by decide +kernel
theorem dX7_cost_50 : decode cX7_cost 50 = .ok (.iload_n 1, 1) := by decide +kernel
theorem dX7_cost_51 : decode cX7_cost 51 = .ok (.if_icmp .eq 6, 3) := by decide +kernel
theorem dX7_cost_54 : decode cX7_cost 54 = .ok (.iinc 2 1, 3) := by decide +kernel
theorem dX7_cost_57 : decode cX7_cost 57 = .ok (.iload 4, 2) := by decide +kernel
theorem dX7_cost_59 : decode cX7_cost 59 = .ok (.istore_n 1, 1) := by decide +kernel
theorem dX7_cost_60 : decode cX7_cost 60 = .ok (.iinc 3 1, 3) := by decide +kernel
theorem dX7_cost_63 : decode cX7_cost 63 = .ok (.goto (-36), 3) := by decide +kernel
theorem dX7_cost_66 : decode cX7_cost 66 = .ok (.iload_n 2, 1) := by decide +kernel
theorem dX7_cost_67 : decode cX7_cost 67 = .ok (.ireturn, 1) := by decide +kernel
theorem dX4_init_0 : decode cX4_init 0 = .ok (.aload_n 0, 1) := by decide +kernel
theorem dX4_init_1 : decode cX4_init 1 = .ok (.invokespecial 3, 3) := by decide +kernel
theorem dX4_init_4 : decode cX4_init 4 = .ok (.aload_n 0, 1) := by decide +kernel
theorem dX4_init_5 : decode cX4_init 5 = .ok (.new 9, 3) := by decide +kernel
theorem dX4_init_8 : decode cX4_init 8 = .ok (.dup, 1) := by decide +kernel
theorem dX4_init_9 : decode cX4_init 9 = .ok (.invokespecial 11, 3) := by decide +kernel
theorem dX4_init_12 : decode cX4_init 12 = .ok (.putfield 12, 3) := by decide +kernel
theorem dX4_init_15 : decode cX4_init 15 = .ok (.aload_n 0, 1) := by decide +kernel
theorem dX4_init_16 : decode cX4_init 16 = .ok (.new 16, 3) := by decide +kernel
theorem dX4_init_19 : decode cX4_init 19 = .ok (.dup, 1) := by decide +kernel
theorem dX4_init_20 : decode cX4_init 20 = .ok (.invokespecial 18, 3) := by decide +kernel
theorem dX4_init_23 : decode cX4_init 23 = .ok (.putfield 19, 3) := by decide +kernel
theorem dX4_init_26 : decode cX4_init 26 = .ok (.aload_n 0, 1) := by decide +kernel
theorem dX4_init_27 : decode cX4_init 27 = .ok (.iconst 2, 1) := by decide +kernel
theorem dX4_init_28 : decode cX4_init 28 = .ok (.anewarray 23, 3) := by decide +kernel
theorem dX4_init_31 : decode cX4_init 31 = .ok (.putfield 25, 3) := by decide +kernel
theorem dX4_init_34 : decode cX4_init 34 = .ok (.aload_n 0, 1) := by decide +kernel
theorem dX4_init_35 : decode cX4_init 35 = .ok (.new 23, 3) := by decide +kernel
theorem dX4_init_38 : decode cX4_init 38 = .ok (.dup, 1) := by decide +kernel
theorem dX4_init_39 : decode cX4_init 39 = .ok (.invokespecial 29, 3) := by decide +kernel
theorem dX4_init_42 : decode cX4_init 42 = .ok (.putfield 30, 3) := by decide +kernel
theorem dX4_init_45 : decode cX4_init 45 = .ok (.aload_n 0, 1) := by decide +kernel
theorem dX4_init_46 : decode cX4_init 46 = .ok (.new 23, 3) := by decide +kernel
theorem dX4_init_49 : decode cX4_init 49 = .ok (.dup, 1) := by decide +kernel
theorem dX4_init_50 : decode cX4_init 50 = .ok (.invokespecial 29, 3) := by decide +kernel
theorem dX4_init_53 : decode cX4_init 53 = .ok (.putfield 34, 3) := by decide +kernel
theorem dX4_init_56 : decode cX4_init 56 = .ok (.return_, 1) := by decide +kernel
theorem dX4_set_0 : decode cX4_set 0 = .ok (.iload_n 1, 1) := by decide +kernel
theorem dX4_set_1 : decode cX4_set 1 = .ok (.ifCond .ne 9, 3) := by decide +kernel
theorem dX4_set_4 : decode cX4_set 4 = .ok (.aload_n 0, 1) := by decide +kernel
theorem dX4_set_5 : decode cX4_set 5 = .ok (.iload_n 2, 1) := by decide +kernel
theorem dX4_set_6 : decode cX4_set 6 = .ok (.invokevirtual 37, 3) := by decide +kernel
theorem dX4_set_9 : decode cX4_set 9 = .ok (.ireturn, 1) := by decide +kernel
theorem dX4_set_10 : decode cX4_set 10 = .ok (.iload_n 1, 1) := by decide +kernel
theorem dX4_set_11 : decode cX4_set 11 = .ok (.iconst 1, 1) := by decide +kernel
theorem dX4_set_12 : decode cX4_set 12 = .ok (.if_icmp .ne 9, 3) := by decide +kernel
theorem dX4_set_15 : decode cX4_set 15 = .ok (.aload_n 0, 1) := by decide +kernel
theorem dX4_set_16 : decode cX4_set 16 = .ok (.iload_n 2, 1) := by decide +kernel
theorem dX4_set_17 : decode cX4_set 17 = .ok (.invokevirtual 41, 3) := by decide +kernel
theorem dX4_set_20 : decode cX4_set 20 = .ok (.ireturn, 1) := by decide +kernel
theorem dX4_set_21 : decode cX4_set 21 = .ok (.bipush (-2), 2) := by decide +kernel
theorem dX4_set_23 : decode cX4_set 23 = .ok (.ireturn, 1) := by decide +kernel
theorem dX4_setHead_0 : decode cX4_setHead 0 = .ok (.iload_n 1, 1) := by decide +kernel
theorem dX4_setHead_1 : decode cX4_setHead 1 = .ok (.ifCond .lt 9, 3) := by decide +kernel
theorem dX4_setHead_4 : decode cX4_setHead 4 = .ok (.iload_n 1, 1) := by decide +kernel
theorem dX4_setHead_5 : decode cX4_setHead 5 = .ok (.bipush 16, 2) := by decide +kernel
theorem dX4_setHead_7 : decode cX4_setHead 7 = .ok (.if_icmp .le 6, 3) := by decide +kernel
theorem dX4_setHead_10 : decode cX4_setHead 10 = .ok (.bipush (-2), 2) := by decide +kernel
theorem dX4_setHead_12 : decode cX4_setHead 12 = .ok (.ireturn, 1) := by decide +kernel
theorem dX4_setHead_13 : decode cX4_setHead 13 = .ok (.aload_n 0, 1) := by decide +kernel
theorem dX4_setHead_14 : decode cX4_setHead 14 = .ok (.getfield 19, 3) := by decide +kernel
theorem dX4_setHead_17 : decode cX4_setHead 17 = .ok (.aload_n 0, 1) := by decide +kernel
theorem dX4_setHead_18 : decode cX4_setHead 18 = .ok (.getfield 30, 3) := by decide +kernel
theorem dX4_setHead_21 : decode cX4_setHead 21 = .ok (.invokevirtual 44, 3) := by decide +kernel
theorem dX4_setHead_24 : decode cX4_setHead 24 = .ok (.aload_n 0, 1) := by decide +kernel
theorem dX4_setHead_25 : decode cX4_setHead 25 = .ok (.getfield 30, 3) := by decide +kernel
theorem dX4_setHead_28 : decode cX4_setHead 28 = .ok (.getfield 48, 3) := by decide +kernel
theorem dX4_setHead_31 : decode cX4_setHead 31 = .ok (.istore_n 2, 1) := by decide +kernel
theorem dX4_setHead_32 : decode cX4_setHead 32 = .ok (.aload_n 0, 1) := by decide +kernel
theorem dX4_setHead_33 : decode cX4_setHead 33 = .ok (.getfield 30, 3) := by decide +kernel
theorem dX4_setHead_36 : decode cX4_setHead 36 = .ok (.iload_n 1, 1) := by decide +kernel
theorem dX4_setHead_37 : decode cX4_setHead 37 = .ok (.putfield 48, 3) := by decide +kernel
theorem dX4_setHead_40 : decode cX4_setHead 40 = .ok (.iload_n 2, 1) := by decide +kernel
theorem dX4_setHead_41 : decode cX4_setHead 41 = .ok (.ireturn, 1) := by decide +kernel
theorem dX4_setPiece_0 : decode cX4_setPiece 0 = .ok (.iload_n 1, 1) := by decide +kernel
theorem dX4_setPiece_1 : decode cX4_setPiece 1 = .ok (.iconst 1, 1) := by decide +kernel
theorem dX4_setPiece_2 : decode cX4_setPiece 2 = .ok (.if_icmp .lt 9, 3) := by decide +kernel
theorem dX4_setPiece_5 : decode cX4_setPiece 5 = .ok (.iload_n 1, 1) := by decide +kernel
theorem dX4_setPiece_6 : decode cX4_setPiece 6 = .ok (.bipush 12, 2) := by decide +kernel
theorem dX4_setPiece_8 : decode cX4_setPiece 8 = .ok (.if_icmp .le 6, 3) := by decide +kernel
theorem dX4_setPiece_11 : decode cX4_setPiece 11 = .ok (.bipush (-2), 2) := by decide +kernel
theorem dX4_setPiece_13 : decode cX4_setPiece 13 = .ok (.ireturn, 1) := by decide +kernel
theorem dX4_setPiece_14 : decode cX4_setPiece 14 = .ok (.aload_n 0, 1) := by decide +kernel
theorem dX4_setPiece_15 : decode cX4_setPiece 15 = .ok (.getfield 19, 3) := by decide +kernel
theorem dX4_setPiece_18 : decode cX4_setPiece 18 = .ok (.aload_n 0, 1) := by decide +kernel
theorem dX4_setPiece_19 : decode cX4_setPiece 19 = .ok (.getfield 30, 3) := by decide +kernel
theorem dX4_setPiece_22 : decode cX4_setPiece 22 = .ok (.invokevirtual 44, 3) := by decide +kernel
theorem dX4_setPiece_25 : decode cX4_setPiece 25 = .ok (.aload_n 0, 1) := by decide +kernel
theorem dX4_setPiece_26 : decode cX4_setPiece 26 = .ok (.getfield 30, 3) := by decide +kernel
theorem dX4_setPiece_29 : decode cX4_setPiece 29 = .ok (.getfield 52, 3) := by decide +kernel
theorem dX4_setPiece_32 : decode cX4_setPiece 32 = .ok (.istore_n 2, 1) := by decide +kernel
theorem dX4_setPiece_33 : decode cX4_setPiece 33 = .ok (.aload_n 0, 1) := by decide +kernel
theorem dX4_setPiece_34 : decode cX4_setPiece 34 = .ok (.getfield 30, 3) := by decide +kernel
theorem dX4_setPiece_37 : decode cX4_setPiece 37 = .ok (.iload_n 1, 1) := by decide +kernel
theorem dX4_setPiece_38 : decode cX4_setPiece 38 = .ok (.putfield 52, 3) := by decide +kernel
theorem dX4_setPiece_41 : decode cX4_setPiece 41 = .ok (.iload_n 2, 1) := by decide +kernel
theorem dX4_setPiece_42 : decode cX4_setPiece 42 = .ok (.ireturn, 1) := by decide +kernel
theorem dX4_write_0 : decode cX4_write 0 = .ok (.aload_n 0, 1) := by decide +kernel
theorem dX4_write_1 : decode cX4_write 1 = .ok (.getfield 12, 3) := by decide +kernel
theorem dX4_write_4 : decode cX4_write 4 = .ok (.invokevirtual 55, 3) := by decide +kernel
theorem dX4_write_7 : decode cX4_write 7 = .ok (.iconst (-1), 1) := by decide +kernel
theorem dX4_write_8 : decode cX4_write 8 = .ok (.if_icmp .eq 6, 3) := by decide +kernel
theorem dX4_write_11 : decode cX4_write 11 = .ok (.bipush (-3), 2) := by decide +kernel
theorem dX4_write_13 : decode cX4_write 13 = .ok (.ireturn, 1) := by decide +kernel
theorem dX4_write_14 : decode cX4_write 14 = .ok (.aload_n 0, 1) := by decide +kernel
theorem dX4_write_15 : decode cX4_write 15 = .ok (.getfield 19, 3) := by decide +kernel
theorem dX4_write_18 : decode cX4_write 18 = .ok (.aload_n 0, 1) := by decide +kernel
theorem dX4_write_19 : decode cX4_write 19 = .ok (.getfield 30, 3) := by decide +kernel
theorem dX4_write_22 : decode cX4_write 22 = .ok (.invokevirtual 44, 3) := by decide +kernel
theorem dX4_write_25 : decode cX4_write 25 = .ok (.iconst 0, 1) := by decide +kernel
theorem dX4_write_26 : decode cX4_write 26 = .ok (.istore_n 1, 1) := by decide +kernel
theorem dX4_write_27 : decode cX4_write 27 = .ok (.iload_n 1, 1) := by decide +kernel
theorem dX4_write_28 : decode cX4_write 28 = .ok (.aload_n 0, 1) := by decide +kernel
theorem dX4_write_29 : decode cX4_write 29 = .ok (.getfield 12, 3) := by decide +kernel
theorem dX4_write_32 : decode cX4_write 32 = .ok (.getfield 59, 3) := by decide +kernel
theorem dX4_write_35 : decode cX4_write 35 = .ok (.if_icmp .ge 17, 3) := by decide +kernel
theorem dX4_write_38 : decode cX4_write 38 = .ok (.aload_n 0, 1) := by decide +kernel
theorem dX4_write_39 : decode cX4_write 39 = .ok (.iload_n 1, 1) := by decide +kernel
theorem dX4_write_40 : decode cX4_write 40 = .ok (.invokevirtual 62, 3) := by decide +kernel
theorem dX4_write_43 : decode cX4_write 43 = .ok (.ifCond .eq 9, 3) := by decide +kernel
theorem dX4_write_46 : decode cX4_write 46 = .ok (.iinc 1 1, 3) := by decide +kernel
theorem dX4_write_49 : decode cX4_write 49 = .ok (.goto (-22), 3) := by decide +kernel
theorem dX4_write_52 : decode cX4_write 52 = .ok (.aload_n 0, 1) := by decide +kernel
theorem dX4_write_53 : decode cX4_write 53 = .ok (.getfield 12, 3) := by decide +kernel
theorem dX4_write_56 : decode cX4_write 56 = .ok (.iconst 0, 1) := by decide +kernel
theorem dX4_write_57 : decode cX4_write 57 = .ok (.putfield 66, 3) := by decide +kernel
theorem dX4_write_60 : decode cX4_write 60 = .ok (.iload_n 1, 1) := by decide +kernel
theorem dX4_write_61 : decode cX4_write 61 = .ok (.ireturn, 1) := by decide +kernel
theorem dX4_writePadRow_0 : decode cX4_writePadRow 0 = .ok (.aload_n 0, 1) := by decide +kernel
theorem dX4_writePadRow_1 : decode cX4_writePadRow 1 = .ok (.getfield 34, 3) := by decide +kernel
theorem dX4_writePadRow_4 : decode cX4_writePadRow 4 = .ok (.aload_n 0, 1) := by decide +kernel
theorem dX4_writePadRow_5 : decode cX4_writePadRow 5 = .ok (.getfield 30, 3) := by decide +kernel
theorem dX4_writePadRow_8 : decode cX4_writePadRow 8 = .ok (.invokevirtual 69, 3) := by decide +kernel
theorem dX4_writePadRow_11 : decode cX4_writePadRow 11 = .ok (.aload_n 0, 1) := by decide +kernel
theorem dX4_writePadRow_12 : decode cX4_writePadRow 12 = .ok (.getfield 34, 3) := by decide +kernel
theorem dX4_writePadRow_15 : decode cX4_writePadRow 15 = .ok (.aload_n 0, 1) := by decide +kernel
theorem dX4_writePadRow_16 : decode cX4_writePadRow 16 = .ok (.getfield 12, 3) := by decide +kernel
theorem dX4_writePadRow_19 : decode cX4_writePadRow 19 = .ok (.getfield 72, 3) := by decide +kernel
theorem dX4_writePadRow_22 : decode cX4_writePadRow 22 = .ok (.iload_n 1, 1) := by decide +kernel
theorem dX4_writePadRow_23 : decode cX4_writePadRow 23 = .ok (.invokestatic 76, 3) := by decide +kernel
theorem dX4_writePadRow_26 : decode cX4_writePadRow 26 = .ok (.aload_n 0, 1) := by decide +kernel
theorem dX4_writePadRow_27 : decode cX4_writePadRow 27 = .ok (.getfield 12, 3) := by decide +kernel
theorem dX4_writePadRow_30 : decode cX4_writePadRow 30 = .ok (.getfield 80, 3) := by decide +kernel
theorem dX4_writePadRow_33 : decode cX4_writePadRow 33 = .ok (.iload_n 1, 1) := by decide +kernel
theorem dX4_writePadRow_34 : decode cX4_writePadRow 34 = .ok (.invokestatic 76, 3) := by decide +kernel
theorem dX4_writePadRow_37 : decode cX4_writePadRow 37 = .ok (.invokevirtual 83, 3) := by decide +kernel
theorem dX4_writePadRow_40 : decode cX4_writePadRow 40 = .ok (.astore_n 2, 1) := by decide +kernel
theorem dX4_writePadRow_41 : decode cX4_writePadRow 41 = .ok (.aload_n 2, 1) := by decide +kernel
theorem dX4_writePadRow_42 : decode cX4_writePadRow 42 = .ok (.ifnonnull 5, 3) := by decide +kernel
theorem dX4_writePadRow_45 : decode cX4_writePadRow 45 = .ok (.iconst 0, 1) := by decide +kernel
theorem dX4_writePadRow_46 : decode cX4_writePadRow 46 = .ok (.ireturn, 1) := by decide +kernel
theorem dX4_writePadRow_47 : decode cX4_writePadRow 47 = .ok (.aload_n 0, 1) := by decide +kernel
theorem dX4_writePadRow_48 : decode cX4_writePadRow 48 = .ok (.getfield 12, 3) := by decide +kernel
theorem dX4_writePadRow_51 : decode cX4_writePadRow 51 = .ok (.getfield 87, 3) := by decide +kernel
theorem dX4_writePadRow_54 : decode cX4_writePadRow 54 = .ok (.iload_n 1, 1) := by decide +kernel
theorem dX4_writePadRow_55 : decode cX4_writePadRow 55 = .ok (.invokestatic 76, 3) := by decide +kernel
theorem dX4_writePadRow_58 : decode cX4_writePadRow 58 = .ok (.istore_n 3, 1) := by decide +kernel
theorem dX4_writePadRow_59 : decode cX4_writePadRow 59 = .ok (.iconst 0, 1) := by decide +kernel
theorem dX4_writePadRow_60 : decode cX4_writePadRow 60 = .ok (.istore 4, 2) := by decide +kernel
theorem dX4_writePadRow_62 : decode cX4_writePadRow 62 = .ok (.iload 4, 2) := by decide +kernel
theorem dX4_writePadRow_64 : decode cX4_writePadRow 64 = .ok (.aload_n 2, 1) := by decide +kernel
theorem dX4_writePadRow_65 : decode cX4_writePadRow 65 = .ok (.getfield 90, 3) := by decide +kernel
theorem dX4_writePadRow_68 : decode cX4_writePadRow 68 = .ok (.if_icmp .ge 35, 3) := by decide +kernel
theorem dX4_writePadRow_71 : decode cX4_writePadRow 71 = .ok (.aload_n 2, 1) := by decide +kernel
theorem dX4_writePadRow_72 : decode cX4_writePadRow 72 = .ok (.getfield 95, 3) := by decide +kernel
theorem dX4_writePadRow_75 : decode cX4_writePadRow 75 = .ok (.iload 4, 2) := by decide +kernel
theorem dX4_writePadRow_77 : decode cX4_writePadRow 77 = .ok (.aload_n 0, 1) := by decide +kernel
theorem dX4_writePadRow_78 : decode cX4_writePadRow 78 = .ok (.getfield 12, 3) := by decide +kernel
theorem dX4_writePadRow_81 : decode cX4_writePadRow 81 = .ok (.getfield 98, 3) := by decide +kernel
theorem dX4_writePadRow_84 : decode cX4_writePadRow 84 = .ok (.iload_n 3, 1) := by decide +kernel
theorem dX4_writePadRow_85 : decode cX4_writePadRow 85 = .ok (.iload 4, 2) := by decide +kernel
theorem dX4_writePadRow_87 : decode cX4_writePadRow 87 = .ok (.iadd, 1) := by decide +kernel
theorem dX4_writePadRow_88 : decode cX4_writePadRow 88 = .ok (.invokestatic 76, 3) := by decide +kernel
theorem dX4_writePadRow_91 : decode cX4_writePadRow 91 = .ok (.bipush 97, 2) := by decide +kernel
theorem dX4_writePadRow_93 : decode cX4_writePadRow 93 = .ok (.isub, 1) := by decide +kernel
theorem dX4_writePadRow_94 : decode cX4_writePadRow 94 = .ok (.invokestatic 101, 3) := by decide +kernel
theorem dX4_writePadRow_97 : decode cX4_writePadRow 97 = .ok (.iinc 4 1, 3) := by decide +kernel
theorem dX4_writePadRow_100 : decode cX4_writePadRow 100 = .ok (.goto (-38), 3) := by decide +kernel
theorem dX4_writePadRow_103 : decode cX4_writePadRow 103 = .ok (.aload_n 0, 1) := by decide +kernel
theorem dX4_writePadRow_104 : decode cX4_writePadRow 104 = .ok (.invokevirtual 105, 3) := by decide +kernel
theorem dX4_writePadRow_107 : decode cX4_writePadRow 107 = .ok (.iconst 1, 1) := by decide +kernel
theorem dX4_writePadRow_108 : decode cX4_writePadRow 108 = .ok (.ireturn, 1) := by decide +kernel
theorem dX4_append_0 : decode cX4_append 0 = .ok (.aload_n 0, 1) := by decide +kernel
theorem dX4_append_1 : decode cX4_append 1 = .ok (.getfield 30, 3) := by decide +kernel
theorem dX4_append_4 : decode cX4_append 4 = .ok (.iload_n 1, 1) := by decide +kernel
theorem dX4_append_5 : decode cX4_append 5 = .ok (.invokevirtual 108, 3) := by decide +kernel
theorem dX4_append_8 : decode cX4_append 8 = .ok (.astore_n 3, 1) := by decide +kernel
theorem dX4_append_9 : decode cX4_append 9 = .ok (.aload_n 3, 1) := by decide +kernel
theorem dX4_append_10 : decode cX4_append 10 = .ok (.ifnonnull 5, 3) := by decide +kernel
theorem dX4_append_13 : decode cX4_append 13 = .ok (.iconst (-1), 1) := by decide +kernel
theorem dX4_append_14 : decode cX4_append 14 = .ok (.ireturn, 1) := by decide +kernel
theorem dX4_append_15 : decode cX4_append 15 = .ok (.iload_n 2, 1) := by decide +kernel
theorem dX4_append_16 : decode cX4_append 16 = .ok (.ifCond .lt 9, 3) := by decide +kernel
theorem dX4_append_19 : decode cX4_append 19 = .ok (.iload_n 2, 1) := by decide +kernel
theorem dX4_append_20 : decode cX4_append 20 = .ok (.bipush 26, 2) := by decide +kernel
theorem dX4_append_22 : decode cX4_append 22 = .ok (.if_icmp .lt 6, 3) := by decide +kernel
theorem dX4_append_25 : decode cX4_append 25 = .ok (.bipush (-2), 2) := by decide +kernel
theorem dX4_append_27 : decode cX4_append 27 = .ok (.ireturn, 1) := by decide +kernel
theorem dX4_append_28 : decode cX4_append 28 = .ok (.aload_n 3, 1) := by decide +kernel
theorem dX4_append_29 : decode cX4_append 29 = .ok (.getfield 90, 3) := by decide +kernel
theorem dX4_append_32 : decode cX4_append 32 = .ok (.istore 4, 2) := by decide +kernel
theorem dX4_append_34 : decode cX4_append 34 = .ok (.iload 4, 2) := by decide +kernel
theorem dX4_append_36 : decode cX4_append 36 = .ok (.bipush 40, 2) := by decide +kernel
theorem dX4_append_38 : decode cX4_append 38 = .ok (.if_icmp .lt 6, 3) := by decide +kernel
theorem dX4_append_41 : decode cX4_append 41 = .ok (.bipush (-4), 2) := by decide +kernel
theorem dX4_append_43 : decode cX4_append 43 = .ok (.ireturn, 1) := by decide +kernel
theorem dX4_append_44 : decode cX4_append 44 = .ok (.aload_n 0, 1) := by decide +kernel
theorem dX4_append_45 : decode cX4_append 45 = .ok (.getfield 34, 3) := by decide +kernel
theorem dX4_append_48 : decode cX4_append 48 = .ok (.aload_n 0, 1) := by decide +kernel
theorem dX4_append_49 : decode cX4_append 49 = .ok (.getfield 30, 3) := by decide +kernel
theorem dX4_append_52 : decode cX4_append 52 = .ok (.invokevirtual 69, 3) := by decide +kernel
theorem dX4_append_55 : decode cX4_append 55 = .ok (.aload_n 0, 1) := by decide +kernel
theorem dX4_append_56 : decode cX4_append 56 = .ok (.getfield 34, 3) := by decide +kernel
theorem dX4_append_59 : decode cX4_append 59 = .ok (.iload_n 1, 1) := by decide +kernel
theorem dX4_append_60 : decode cX4_append 60 = .ok (.iload 4, 2) := by decide +kernel
theorem dX4_append_62 : decode cX4_append 62 = .ok (.iconst 1, 1) := by decide +kernel
theorem dX4_append_63 : decode cX4_append 63 = .ok (.iadd, 1) := by decide +kernel
theorem dX4_append_64 : decode cX4_append 64 = .ok (.invokevirtual 83, 3) := by decide +kernel
theorem dX4_append_67 : decode cX4_append 67 = .ok (.astore 5, 2) := by decide +kernel
theorem dX4_append_69 : decode cX4_append 69 = .ok (.aload 5, 2) := by decide +kernel
theorem dX4_append_71 : decode cX4_append 71 = .ok (.ifnonnull 6, 3) := by decide +kernel
theorem dX4_append_74 : decode cX4_append 74 = .ok (.bipush (-5), 2) := by decide +kernel
theorem dX4_append_76 : decode cX4_append 76 = .ok (.ireturn, 1) := by decide +kernel
theorem dX4_append_77 : decode cX4_append 77 = .ok (.aload 5, 2) := by decide +kernel
theorem dX4_append_79 : decode cX4_append 79 = .ok (.getfield 95, 3) := by decide +kernel
theorem dX4_append_82 : decode cX4_append 82 = .ok (.iload 4, 2) := by decide +kernel
theorem dX4_append_84 : decode cX4_append 84 = .ok (.iload_n 2, 1) := by decide +kernel
theorem dX4_append_85 : decode cX4_append 85 = .ok (.invokestatic 101, 3) := by decide +kernel
theorem dX4_append_88 : decode cX4_append 88 = .ok (.aload_n 0, 1) := by decide +kernel
theorem dX4_append_89 : decode cX4_append 89 = .ok (.getfield 19, 3) := by decide +kernel
theorem dX4_append_92 : decode cX4_append 92 = .ok (.aload_n 0, 1) := by decide +kernel
theorem dX4_append_93 : decode cX4_append 93 = .ok (.getfield 30, 3) := by decide +kernel
theorem dX4_append_96 : decode cX4_append 96 = .ok (.invokevirtual 44, 3) := by decide +kernel
theorem dX4_append_99 : decode cX4_append 99 = .ok (.aload_n 0, 1) := by decide +kernel
theorem dX4_append_100 : decode cX4_append 100 = .ok (.invokevirtual 105, 3) := by decide +kernel
theorem dX4_append_103 : decode cX4_append 103 = .ok (.iload 4, 2) := by decide +kernel
theorem dX4_append_105 : decode cX4_append 105 = .ok (.iconst 1, 1) := by decide +kernel
theorem dX4_append_106 : decode cX4_append 106 = .ok (.iadd, 1) := by decide +kernel
theorem dX4_append_107 : decode cX4_append 107 = .ok (.ireturn, 1) := by decide +kernel
theorem dX4_delete_0 : decode cX4_delete 0 = .ok (.aload_n 0, 1) := by decide +kernel
theorem dX4_delete_1 : decode cX4_delete 1 = .ok (.getfield 30, 3) := by decide +kernel
theorem dX4_delete_4 : decode cX4_delete 4 = .ok (.iload_n 1, 1) := by decide +kernel
theorem dX4_delete_5 : decode cX4_delete 5 = .ok (.invokevirtual 108, 3) := by decide +kernel
theorem dX4_delete_8 : decode cX4_delete 8 = .ok (.astore_n 2, 1) := by decide +kernel
theorem dX4_delete_9 : decode cX4_delete 9 = .ok (.aload_n 2, 1) := by decide +kernel
theorem dX4_delete_10 : decode cX4_delete 10 = .ok (.ifnonnull 5, 3) := by decide +kernel
theorem dX4_delete_13 : decode cX4_delete 13 = .ok (.iconst (-1), 1) := by decide +kernel
theorem dX4_delete_14 : decode cX4_delete 14 = .ok (.ireturn, 1) := by decide +kernel
theorem dX4_delete_15 : decode cX4_delete 15 = .ok (.aload_n 0, 1) := by decide +kernel
theorem dX4_delete_16 : decode cX4_delete 16 = .ok (.getfield 19, 3) := by decide +kernel
theorem dX4_delete_19 : decode cX4_delete 19 = .ok (.aload_n 0, 1) := by decide +kernel
theorem dX4_delete_20 : decode cX4_delete 20 = .ok (.getfield 30, 3) := by decide +kernel
theorem dX4_delete_23 : decode cX4_delete 23 = .ok (.invokevirtual 44, 3) := by decide +kernel
theorem dX4_delete_26 : decode cX4_delete 26 = .ok (.aload_n 0, 1) := by decide +kernel
theorem dX4_delete_27 : decode cX4_delete 27 = .ok (.getfield 30, 3) := by decide +kernel
theorem dX4_delete_30 : decode cX4_delete 30 = .ok (.aload_n 2, 1) := by decide +kernel
theorem dX4_delete_31 : decode cX4_delete 31 = .ok (.invokevirtual 112, 3) := by decide +kernel
theorem dX4_delete_34 : decode cX4_delete 34 = .ok (.istore_n 3, 1) := by decide +kernel
theorem dX4_delete_35 : decode cX4_delete 35 = .ok (.aload_n 0, 1) := by decide +kernel
theorem dX4_delete_36 : decode cX4_delete 36 = .ok (.getfield 30, 3) := by decide +kernel
theorem dX4_delete_39 : decode cX4_delete 39 = .ok (.aload_n 2, 1) := by decide +kernel
theorem dX4_delete_40 : decode cX4_delete 40 = .ok (.invokevirtual 116, 3) := by decide +kernel
theorem dX4_delete_43 : decode cX4_delete 43 = .ok (.iload_n 3, 1) := by decide +kernel
theorem dX4_delete_44 : decode cX4_delete 44 = .ok (.ireturn, 1) := by decide +kernel
theorem dX4_pack_0 : decode cX4_pack 0 = .ok (.aload_n 0, 1) := by decide +kernel
theorem dX4_pack_1 : decode cX4_pack 1 = .ok (.aload_n 0, 1) := by decide +kernel
theorem dX4_pack_2 : decode cX4_pack 2 = .ok (.getfield 30, 3) := by decide +kernel
theorem dX4_pack_5 : decode cX4_pack 5 = .ok (.getfield 48, 3) := by decide +kernel
theorem dX4_pack_8 : decode cX4_pack 8 = .ok (.invokevirtual 120, 3) := by decide +kernel
theorem dX4_pack_11 : decode cX4_pack 11 = .ok (.ifCond .ne 6, 3) := by decide +kernel
theorem dX4_pack_14 : decode cX4_pack 14 = .ok (.bipush (-5), 2) := by decide +kernel
theorem dX4_pack_16 : decode cX4_pack 16 = .ok (.ireturn, 1) := by decide +kernel
theorem dX4_pack_17 : decode cX4_pack 17 = .ok (.aload_n 0, 1) := by decide +kernel
theorem dX4_pack_18 : decode cX4_pack 18 = .ok (.getfield 19, 3) := by decide +kernel
theorem dX4_pack_21 : decode cX4_pack 21 = .ok (.aload_n 0, 1) := by decide +kernel
theorem dX4_pack_22 : decode cX4_pack 22 = .ok (.getfield 30, 3) := by decide +kernel
theorem dX4_pack_25 : decode cX4_pack 25 = .ok (.invokevirtual 44, 3) := by decide +kernel
theorem dX4_pack_28 : decode cX4_pack 28 = .ok (.aload_n 0, 1) := by decide +kernel
theorem dX4_pack_29 : decode cX4_pack 29 = .ok (.invokevirtual 105, 3) := by decide +kernel
theorem dX4_pack_32 : decode cX4_pack 32 = .ok (.aload_n 0, 1) := by decide +kernel
theorem dX4_pack_33 : decode cX4_pack 33 = .ok (.getfield 30, 3) := by decide +kernel
theorem dX4_pack_36 : decode cX4_pack 36 = .ok (.getfield 123, 3) := by decide +kernel
theorem dX4_pack_39 : decode cX4_pack 39 = .ok (.invokevirtual 127, 3) := by decide +kernel
theorem dX4_pack_42 : decode cX4_pack 42 = .ok (.ireturn, 1) := by decide +kernel
theorem dX4_tryPacking_0 : decode cX4_tryPacking 0 = .ok (.aload_n 0, 1) := by decide +kernel
theorem dX4_tryPacking_1 : decode cX4_tryPacking 1 = .ok (.getfield 34, 3) := by decide +kernel
theorem dX4_tryPacking_4 : decode cX4_tryPacking 4 = .ok (.aload_n 0, 1) := by decide +kernel
theorem dX4_tryPacking_5 : decode cX4_tryPacking 5 = .ok (.getfield 30, 3) := by decide +kernel
theorem dX4_tryPacking_8 : decode cX4_tryPacking 8 = .ok (.invokevirtual 69, 3) := by decide +kernel
theorem dX4_tryPacking_11 : decode cX4_tryPacking 11 = .ok (.aload_n 0, 1) := by decide +kernel
theorem dX4_tryPacking_12 : decode cX4_tryPacking 12 = .ok (.getfield 34, 3) := by decide +kernel
theorem dX4_tryPacking_15 : decode cX4_tryPacking 15 = .ok (.iload_n 1, 1) := by decide +kernel
theorem dX4_tryPacking_16 : decode cX4_tryPacking 16 = .ok (.putfield 48, 3) := by decide +kernel
theorem dX4_tryPacking_19 : decode cX4_tryPacking 19 = .ok (.aload_n 0, 1) := by decide +kernel
theorem dX4_tryPacking_20 : decode cX4_tryPacking 20 = .ok (.getfield 34, 3) := by decide +kernel
theorem dX4_tryPacking_23 : decode cX4_tryPacking 23 = .ok (.invokevirtual 132, 3) := by decide +kernel
theorem dX4_tryPacking_26 : decode cX4_tryPacking 26 = .ok (.ireturn, 1) := by decide +kernel
theorem dX4_takeTrial_0 : decode cX4_takeTrial 0 = .ok (.aload_n 0, 1) := by decide +kernel
theorem dX4_takeTrial_1 : decode cX4_takeTrial 1 = .ok (.getfield 30, 3) := by decide +kernel
theorem dX4_takeTrial_4 : decode cX4_takeTrial 4 = .ok (.astore_n 1, 1) := by decide +kernel
theorem dX4_takeTrial_5 : decode cX4_takeTrial 5 = .ok (.aload_n 0, 1) := by decide +kernel
theorem dX4_takeTrial_6 : decode cX4_takeTrial 6 = .ok (.aload_n 0, 1) := by decide +kernel
theorem dX4_takeTrial_7 : decode cX4_takeTrial 7 = .ok (.getfield 34, 3) := by decide +kernel
theorem dX4_takeTrial_10 : decode cX4_takeTrial 10 = .ok (.putfield 30, 3) := by decide +kernel
theorem dX4_takeTrial_13 : decode cX4_takeTrial 13 = .ok (.aload_n 0, 1) := by decide +kernel
theorem dX4_takeTrial_14 : decode cX4_takeTrial 14 = .ok (.aload_n 1, 1) := by decide +kernel
theorem dX4_takeTrial_15 : decode cX4_takeTrial 15 = .ok (.putfield 34, 3) := by decide +kernel
theorem dX4_takeTrial_18 : decode cX4_takeTrial 18 = .ok (.return_, 1) := by decide +kernel
theorem dX4_row_0 : decode cX4_row 0 = .ok (.aload_n 0, 1) := by decide +kernel
theorem dX4_row_1 : decode cX4_row 1 = .ok (.getfield 30, 3) := by decide +kernel
theorem dX4_row_4 : decode cX4_row 4 = .ok (.iload_n 1, 1) := by decide +kernel
theorem dX4_row_5 : decode cX4_row 5 = .ok (.invokevirtual 108, 3) := by decide +kernel
theorem dX4_row_8 : decode cX4_row 8 = .ok (.astore_n 3, 1) := by decide +kernel
theorem dX4_row_9 : decode cX4_row 9 = .ok (.aload_n 3, 1) := by decide +kernel
theorem dX4_row_10 : decode cX4_row 10 = .ok (.ifnonnull 5, 3) := by decide +kernel
theorem dX4_row_13 : decode cX4_row 13 = .ok (.iconst (-1), 1) := by decide +kernel
theorem dX4_row_14 : decode cX4_row 14 = .ok (.ireturn, 1) := by decide +kernel
theorem dX4_row_15 : decode cX4_row 15 = .ok (.iload_n 2, 1) := by decide +kernel
theorem dX4_row_16 : decode cX4_row 16 = .ok (.tableswitch 145 0 9 #[56, 61, 69, 77, 85, 93, 106, 126, 131, 136], 56) := by decide +kernel
theorem dX4_row_72 : decode cX4_row 72 = .ok (.aload_n 3, 1) := by decide +kernel
theorem dX4_row_73 : decode cX4_row 73 = .ok (.getfield 90, 3) := by decide +kernel
theorem dX4_row_76 : decode cX4_row 76 = .ok (.ireturn, 1) := by decide +kernel
theorem dX4_row_77 : decode cX4_row 77 = .ok (.aload_n 3, 1) := by decide +kernel
theorem dX4_row_78 : decode cX4_row 78 = .ok (.getfield 136, 3) := by decide +kernel
theorem dX4_row_81 : decode cX4_row 81 = .ok (.bipush 40, 2) := by decide +kernel
theorem dX4_row_83 : decode cX4_row 83 = .ok (.idiv, 1) := by decide +kernel
theorem dX4_row_84 : decode cX4_row 84 = .ok (.ireturn, 1) := by decide +kernel
theorem dX4_row_85 : decode cX4_row 85 = .ok (.aload_n 3, 1) := by decide +kernel
theorem dX4_row_86 : decode cX4_row 86 = .ok (.getfield 136, 3) := by decide +kernel
theorem dX4_row_89 : decode cX4_row 89 = .ok (.bipush 40, 2) := by decide +kernel
theorem dX4_row_91 : decode cX4_row 91 = .ok (.irem, 1) := by decide +kernel
theorem dX4_row_92 : decode cX4_row 92 = .ok (.ireturn, 1) := by decide +kernel
theorem dX4_row_93 : decode cX4_row 93 = .ok (.aload_n 3, 1) := by decide +kernel
theorem dX4_row_94 : decode cX4_row 94 = .ok (.getfield 139, 3) := by decide +kernel
theorem dX4_row_97 : decode cX4_row 97 = .ok (.bipush 40, 2) := by decide +kernel
theorem dX4_row_99 : decode cX4_row 99 = .ok (.idiv, 1) := by decide +kernel
theorem dX4_row_100 : decode cX4_row 100 = .ok (.ireturn, 1) := by decide +kernel
theorem dX4_row_101 : decode cX4_row 101 = .ok (.aload_n 3, 1) := by decide +kernel
theorem dX4_row_102 : decode cX4_row 102 = .ok (.getfield 139, 3) := by decide +kernel
theorem dX4_row_105 : decode cX4_row 105 = .ok (.bipush 40, 2) := by decide +kernel
theorem dX4_row_107 : decode cX4_row 107 = .ok (.irem, 1) := by decide +kernel
theorem dX4_row_108 : decode cX4_row 108 = .ok (.ireturn, 1) := by decide +kernel
theorem dX4_row_109 : decode cX4_row 109 = .ok (.aload_n 3, 1) := by decide +kernel
theorem dX4_row_110 : decode cX4_row 110 = .ok (.invokevirtual 142, 3) := by decide +kernel
theorem dX4_row_113 : decode cX4_row 113 = .ok (.ifCond .eq 7, 3) := by decide +kernel
theorem dX4_row_116 : decode cX4_row 116 = .ok (.iconst 1, 1) := by decide +kernel
theorem dX4_row_117 : decode cX4_row 117 = .ok (.goto 4, 3) := by decide +kernel
theorem dX4_row_120 : decode cX4_row 120 = .ok (.iconst 0, 1) := by decide +kernel
theorem dX4_row_121 : decode cX4_row 121 = .ok (.ireturn, 1) := by decide +kernel
theorem dX4_row_122 : decode cX4_row 122 = .ok (.aload_n 0, 1) := by decide +kernel
theorem dX4_row_123 : decode cX4_row 123 = .ok (.getfield 30, 3) := by decide +kernel
theorem dX4_row_126 : decode cX4_row 126 = .ok (.getfield 123, 3) := by decide +kernel
theorem dX4_row_129 : decode cX4_row 129 = .ok (.getfield 145, 3) := by decide +kernel
theorem dX4_row_132 : decode cX4_row 132 = .ok (.aload_n 3, 1) := by decide +kernel
theorem dX4_row_133 : decode cX4_row 133 = .ok (.getfield 139, 3) := by decide +kernel
theorem dX4_row_136 : decode cX4_row 136 = .ok (.invokestatic 76, 3) := by decide +kernel
theorem dX4_row_139 : decode cX4_row 139 = .ok (.iconst 2, 1) := by decide +kernel
theorem dX4_row_140 : decode cX4_row 140 = .ok (.isub, 1) := by decide +kernel
theorem dX4_row_141 : decode cX4_row 141 = .ok (.ireturn, 1) := by decide +kernel
theorem dX4_row_142 : decode cX4_row 142 = .ok (.aload_n 3, 1) := by decide +kernel
theorem dX4_row_143 : decode cX4_row 143 = .ok (.getfield 148, 3) := by decide +kernel
theorem dX4_row_146 : decode cX4_row 146 = .ok (.ireturn, 1) := by decide +kernel
theorem dX4_row_147 : decode cX4_row 147 = .ok (.aload_n 3, 1) := by decide +kernel
theorem dX4_row_148 : decode cX4_row 148 = .ok (.invokevirtual 151, 3) := by decide +kernel
theorem dX4_row_151 : decode cX4_row 151 = .ok (.ireturn, 1) := by decide +kernel
theorem dX4_row_152 : decode cX4_row 152 = .ok (.aload_n 0, 1) := by decide +kernel
theorem dX4_row_153 : decode cX4_row 153 = .ok (.getfield 30, 3) := by decide +kernel
theorem dX4_row_156 : decode cX4_row 156 = .ok (.aload_n 3, 1) := by decide +kernel
theorem dX4_row_157 : decode cX4_row 157 = .ok (.invokevirtual 112, 3) := by decide +kernel
theorem dX4_row_160 : decode cX4_row 160 = .ok (.ireturn, 1) := by decide +kernel
theorem dX4_row_161 : decode cX4_row 161 = .ok (.bipush (-2), 2) := by decide +kernel
theorem dX4_row_163 : decode cX4_row 163 = .ok (.ireturn, 1) := by decide +kernel
theorem dX4_letter_0 : decode cX4_letter 0 = .ok (.aload_n 0, 1) := by decide +kernel
theorem dX4_letter_1 : decode cX4_letter 1 = .ok (.getfield 30, 3) := by decide +kernel
theorem dX4_letter_4 : decode cX4_letter 4 = .ok (.iload_n 1, 1) := by decide +kernel
theorem dX4_letter_5 : decode cX4_letter 5 = .ok (.invokevirtual 108, 3) := by decide +kernel
theorem dX4_letter_8 : decode cX4_letter 8 = .ok (.astore_n 3, 1) := by decide +kernel
theorem dX4_letter_9 : decode cX4_letter 9 = .ok (.aload_n 3, 1) := by decide +kernel
theorem dX4_letter_10 : decode cX4_letter 10 = .ok (.ifnull 15, 3) := by decide +kernel
theorem dX4_letter_13 : decode cX4_letter 13 = .ok (.iload_n 2, 1) := by decide +kernel
theorem dX4_letter_14 : decode cX4_letter 14 = .ok (.ifCond .lt 11, 3) := by decide +kernel
theorem dX4_letter_17 : decode cX4_letter 17 = .ok (.iload_n 2, 1) := by decide +kernel
theorem dX4_letter_18 : decode cX4_letter 18 = .ok (.aload_n 3, 1) := by decide +kernel
theorem dX4_letter_19 : decode cX4_letter 19 = .ok (.getfield 90, 3) := by decide +kernel
theorem dX4_letter_22 : decode cX4_letter 22 = .ok (.if_icmp .lt 5, 3) := by decide +kernel
theorem dX4_letter_25 : decode cX4_letter 25 = .ok (.iconst (-1), 1) := by decide +kernel
theorem dX4_letter_26 : decode cX4_letter 26 = .ok (.ireturn, 1) := by decide +kernel
theorem dX4_letter_27 : decode cX4_letter 27 = .ok (.aload_n 3, 1) := by decide +kernel
theorem dX4_letter_28 : decode cX4_letter 28 = .ok (.getfield 95, 3) := by decide +kernel
theorem dX4_letter_31 : decode cX4_letter 31 = .ok (.iload_n 2, 1) := by decide +kernel
theorem dX4_letter_32 : decode cX4_letter 32 = .ok (.invokestatic 76, 3) := by decide +kernel
theorem dX4_letter_35 : decode cX4_letter 35 = .ok (.ireturn, 1) := by decide +kernel
theorem dX4_piece_0 : decode cX4_piece 0 = .ok (.aload_n 0, 1) := by decide +kernel
theorem dX4_piece_1 : decode cX4_piece 1 = .ok (.getfield 30, 3) := by decide +kernel
theorem dX4_piece_4 : decode cX4_piece 4 = .ok (.iload_n 1, 1) := by decide +kernel
theorem dX4_piece_5 : decode cX4_piece 5 = .ok (.invokevirtual 108, 3) := by decide +kernel
theorem dX4_piece_8 : decode cX4_piece 8 = .ok (.astore 4, 2) := by decide +kernel
theorem dX4_piece_10 : decode cX4_piece 10 = .ok (.aload 4, 2) := by decide +kernel
theorem dX4_piece_12 : decode cX4_piece 12 = .ok (.ifnull 16, 3) := by decide +kernel
theorem dX4_piece_15 : decode cX4_piece 15 = .ok (.iload_n 2, 1) := by decide +kernel
theorem dX4_piece_16 : decode cX4_piece 16 = .ok (.ifCond .lt 12, 3) := by decide +kernel
theorem dX4_piece_19 : decode cX4_piece 19 = .ok (.iload_n 2, 1) := by decide +kernel
theorem dX4_piece_20 : decode cX4_piece 20 = .ok (.aload 4, 2) := by decide +kernel
theorem dX4_piece_22 : decode cX4_piece 22 = .ok (.getfield 148, 3) := by decide +kernel
theorem dX4_piece_25 : decode cX4_piece 25 = .ok (.if_icmp .lt 5, 3) := by decide +kernel
theorem dX4_piece_28 : decode cX4_piece 28 = .ok (.iconst (-1), 1) := by decide +kernel
theorem dX4_piece_29 : decode cX4_piece 29 = .ok (.ireturn, 1) := by decide +kernel
theorem dX4_piece_30 : decode cX4_piece 30 = .ok (.aload 4, 2) := by decide +kernel
theorem dX4_piece_32 : decode cX4_piece 32 = .ok (.getfield 154, 3) := by decide +kernel
theorem dX4_piece_35 : decode cX4_piece 35 = .ok (.iload_n 2, 1) := by decide +kernel
theorem dX4_piece_36 : decode cX4_piece 36 = .ok (.invokestatic 76, 3) := by decide +kernel
theorem dX4_piece_39 : decode cX4_piece 39 = .ok (.istore 5, 2) := by decide +kernel
theorem dX4_piece_41 : decode cX4_piece 41 = .ok (.iload_n 3, 1) := by decide +kernel
theorem dX4_piece_42 : decode cX4_piece 42 = .ok (.tableswitch 56 0 2 #[26, 32, 38], 26) := by decide +kernel
theorem dX4_piece_68 : decode cX4_piece 68 = .ok (.iload 5, 2) := by decide +kernel
theorem dX4_piece_70 : decode cX4_piece 70 = .ok (.bipush 40, 2) := by decide +kernel
theorem dX4_piece_72 : decode cX4_piece 72 = .ok (.idiv, 1) := by decide +kernel
theorem dX4_piece_73 : decode cX4_piece 73 = .ok (.ireturn, 1) := by decide +kernel
theorem dX4_piece_74 : decode cX4_piece 74 = .ok (.iload 5, 2) := by decide +kernel
theorem dX4_piece_76 : decode cX4_piece 76 = .ok (.bipush 40, 2) := by decide +kernel
theorem dX4_piece_78 : decode cX4_piece 78 = .ok (.irem, 1) := by decide +kernel
theorem dX4_piece_79 : decode cX4_piece 79 = .ok (.ireturn, 1) := by decide +kernel
theorem dX4_piece_80 : decode cX4_piece 80 = .ok (.aload_n 0, 1) := by decide +kernel
theorem dX4_piece_81 : decode cX4_piece 81 = .ok (.getfield 30, 3) := by decide +kernel
theorem dX4_piece_84 : decode cX4_piece 84 = .ok (.getfield 123, 3) := by decide +kernel
theorem dX4_piece_87 : decode cX4_piece 87 = .ok (.getfield 145, 3) := by decide +kernel
theorem dX4_piece_90 : decode cX4_piece 90 = .ok (.iload 5, 2) := by decide +kernel
theorem dX4_piece_92 : decode cX4_piece 92 = .ok (.invokestatic 76, 3) := by decide +kernel
theorem dX4_piece_95 : decode cX4_piece 95 = .ok (.iconst 1, 1) := by decide +kernel
theorem dX4_piece_96 : decode cX4_piece 96 = .ok (.isub, 1) := by decide +kernel
theorem dX4_piece_97 : decode cX4_piece 97 = .ok (.ireturn, 1) := by decide +kernel
theorem dX4_piece_98 : decode cX4_piece 98 = .ok (.bipush (-2), 2) := by decide +kernel
theorem dX4_piece_100 : decode cX4_piece 100 = .ok (.ireturn, 1) := by decide +kernel
theorem dX4_page_0 : decode cX4_page 0 = .ok (.iload_n 1, 1) := by decide +kernel
theorem dX4_page_1 : decode cX4_page 1 = .ok (.ifCond .lt 9, 3) := by decide +kernel
theorem dX4_page_4 : decode cX4_page 4 = .ok (.iload_n 1, 1) := by decide +kernel
theorem dX4_page_5 : decode cX4_page 5 = .ok (.bipush 10, 2) := by decide +kernel
theorem dX4_page_7 : decode cX4_page 7 = .ok (.if_icmp .lt 5, 3) := by decide +kernel
theorem dX4_page_10 : decode cX4_page 10 = .ok (.iconst (-1), 1) := by decide +kernel
theorem dX4_page_11 : decode cX4_page 11 = .ok (.ireturn, 1) := by decide +kernel
theorem dX4_page_12 : decode cX4_page 12 = .ok (.iload_n 2, 1) := by decide +kernel
theorem dX4_page_13 : decode cX4_page 13 = .ok (.tableswitch 118 0 5 #[39, 54, 66, 79, 92, 105], 39) := by decide +kernel
theorem dX4_page_52 : decode cX4_page 52 = .ok (.aload_n 0, 1) := by decide +kernel
theorem dX4_page_53 : decode cX4_page 53 = .ok (.getfield 30, 3) := by decide +kernel
theorem dX4_page_56 : decode cX4_page 56 = .ok (.getfield 123, 3) := by decide +kernel
theorem dX4_page_59 : decode cX4_page 59 = .ok (.getfield 157, 3) := by decide +kernel
theorem dX4_page_62 : decode cX4_page 62 = .ok (.iload_n 1, 1) := by decide +kernel
theorem dX4_page_63 : decode cX4_page 63 = .ok (.invokestatic 76, 3) := by decide +kernel
theorem dX4_page_66 : decode cX4_page 66 = .ok (.ireturn, 1) := by decide +kernel
theorem dX4_page_67 : decode cX4_page 67 = .ok (.aload_n 0, 1) := by decide +kernel
theorem dX4_page_68 : decode cX4_page 68 = .ok (.getfield 30, 3) := by decide +kernel
theorem dX4_page_71 : decode cX4_page 71 = .ok (.getfield 123, 3) := by decide +kernel
theorem dX4_page_74 : decode cX4_page 74 = .ok (.iload_n 1, 1) := by decide +kernel
theorem dX4_page_75 : decode cX4_page 75 = .ok (.invokevirtual 160, 3) := by decide +kernel
theorem dX4_page_78 : decode cX4_page 78 = .ok (.ireturn, 1) := by decide +kernel
theorem dX4_page_79 : decode cX4_page 79 = .ok (.aload_n 0, 1) := by decide +kernel
theorem dX4_page_80 : decode cX4_page 80 = .ok (.getfield 30, 3) := by decide +kernel
theorem dX4_page_83 : decode cX4_page 83 = .ok (.getfield 123, 3) := by decide +kernel
theorem dX4_page_86 : decode cX4_page 86 = .ok (.iload_n 1, 1) := by decide +kernel
theorem dX4_page_87 : decode cX4_page 87 = .ok (.iconst 1, 1) := by decide +kernel
theorem dX4_page_88 : decode cX4_page 88 = .ok (.invokevirtual 163, 3) := by decide +kernel
theorem dX4_page_91 : decode cX4_page 91 = .ok (.ireturn, 1) := by decide +kernel
theorem dX4_page_92 : decode cX4_page 92 = .ok (.aload_n 0, 1) := by decide +kernel
theorem dX4_page_93 : decode cX4_page 93 = .ok (.getfield 30, 3) := by decide +kernel
theorem dX4_page_96 : decode cX4_page 96 = .ok (.getfield 123, 3) := by decide +kernel
theorem dX4_page_99 : decode cX4_page 99 = .ok (.iload_n 1, 1) := by decide +kernel
theorem dX4_page_100 : decode cX4_page 100 = .ok (.iconst 2, 1) := by decide +kernel
theorem dX4_page_101 : decode cX4_page 101 = .ok (.invokevirtual 163, 3) := by decide +kernel
theorem dX4_page_104 : decode cX4_page 104 = .ok (.ireturn, 1) := by decide +kernel
theorem dX4_page_105 : decode cX4_page 105 = .ok (.aload_n 0, 1) := by decide +kernel
theorem dX4_page_106 : decode cX4_page 106 = .ok (.getfield 30, 3) := by decide +kernel
theorem dX4_page_109 : decode cX4_page 109 = .ok (.getfield 123, 3) := by decide +kernel
theorem dX4_page_112 : decode cX4_page 112 = .ok (.iload_n 1, 1) := by decide +kernel
theorem dX4_page_113 : decode cX4_page 113 = .ok (.iconst 3, 1) := by decide +kernel
theorem dX4_page_114 : decode cX4_page 114 = .ok (.invokevirtual 163, 3) := by decide +kernel
theorem dX4_page_117 : decode cX4_page 117 = .ok (.ireturn, 1) := by decide +kernel
theorem dX4_page_118 : decode cX4_page 118 = .ok (.aload_n 0, 1) := by decide +kernel
theorem dX4_page_119 : decode cX4_page 119 = .ok (.getfield 30, 3) := by decide +kernel
theorem dX4_page_122 : decode cX4_page 122 = .ok (.getfield 123, 3) := by decide +kernel
theorem dX4_page_125 : decode cX4_page 125 = .ok (.iload_n 1, 1) := by decide +kernel
theorem dX4_page_126 : decode cX4_page 126 = .ok (.iconst 0, 1) := by decide +kernel
theorem dX4_page_127 : decode cX4_page 127 = .ok (.invokevirtual 163, 3) := by decide +kernel
theorem dX4_page_130 : decode cX4_page 130 = .ok (.ireturn, 1) := by decide +kernel
theorem dX4_page_131 : decode cX4_page 131 = .ok (.bipush (-2), 2) := by decide +kernel
theorem dX4_page_133 : decode cX4_page 133 = .ok (.ireturn, 1) := by decide +kernel
theorem dX4_slot_0 : decode cX4_slot 0 = .ok (.iload_n 1, 1) := by decide +kernel
theorem dX4_slot_1 : decode cX4_slot 1 = .ok (.ifCond .lt 28, 3) := by decide +kernel
theorem dX4_slot_4 : decode cX4_slot 4 = .ok (.iload_n 1, 1) := by decide +kernel
theorem dX4_slot_5 : decode cX4_slot 5 = .ok (.bipush 10, 2) := by decide +kernel
theorem dX4_slot_7 : decode cX4_slot 7 = .ok (.if_icmp .ge 22, 3) := by decide +kernel
theorem dX4_slot_10 : decode cX4_slot 10 = .ok (.iload_n 2, 1) := by decide +kernel
theorem dX4_slot_11 : decode cX4_slot 11 = .ok (.ifCond .lt 18, 3) := by decide +kernel
theorem dX4_slot_14 : decode cX4_slot 14 = .ok (.iload_n 2, 1) := by decide +kernel
theorem dX4_slot_15 : decode cX4_slot 15 = .ok (.aload_n 0, 1) := by decide +kernel
theorem dX4_slot_16 : decode cX4_slot 16 = .ok (.getfield 30, 3) := by decide +kernel
theorem dX4_slot_19 : decode cX4_slot 19 = .ok (.getfield 123, 3) := by decide +kernel
theorem dX4_slot_22 : decode cX4_slot 22 = .ok (.iload_n 1, 1) := by decide +kernel
theorem dX4_slot_23 : decode cX4_slot 23 = .ok (.invokevirtual 160, 3) := by decide +kernel
theorem dX4_slot_26 : decode cX4_slot 26 = .ok (.if_icmp .lt 5, 3) := by decide +kernel
theorem dX4_slot_29 : decode cX4_slot 29 = .ok (.iconst (-1), 1) := by decide +kernel
theorem dX4_slot_30 : decode cX4_slot 30 = .ok (.ireturn, 1) := by decide +kernel
theorem dX4_slot_31 : decode cX4_slot 31 = .ok (.iload_n 1, 1) := by decide +kernel
theorem dX4_slot_32 : decode cX4_slot 32 = .ok (.bipush 40, 2) := by decide +kernel
theorem dX4_slot_34 : decode cX4_slot 34 = .ok (.imul, 1) := by decide +kernel
theorem dX4_slot_35 : decode cX4_slot 35 = .ok (.iload_n 2, 1) := by decide +kernel
theorem dX4_slot_36 : decode cX4_slot 36 = .ok (.iadd, 1) := by decide +kernel
theorem dX4_slot_37 : decode cX4_slot 37 = .ok (.istore 4, 2) := by decide +kernel
theorem dX4_slot_39 : decode cX4_slot 39 = .ok (.iload_n 3, 1) := by decide +kernel
theorem dX4_slot_40 : decode cX4_slot 40 = .ok (.tableswitch 99 0 2 #[28, 44, 83], 28) := by decide +kernel
theorem dX4_slot_68 : decode cX4_slot 68 = .ok (.aload_n 0, 1) := by decide +kernel
theorem dX4_slot_69 : decode cX4_slot 69 = .ok (.getfield 30, 3) := by decide +kernel
theorem dX4_slot_72 : decode cX4_slot 72 = .ok (.getfield 123, 3) := by decide +kernel
theorem dX4_slot_75 : decode cX4_slot 75 = .ok (.getfield 167, 3) := by decide +kernel
theorem dX4_slot_78 : decode cX4_slot 78 = .ok (.iload 4, 2) := by decide +kernel
theorem dX4_slot_80 : decode cX4_slot 80 = .ok (.invokestatic 76, 3) := by decide +kernel
theorem dX4_slot_83 : decode cX4_slot 83 = .ok (.ireturn, 1) := by decide +kernel
theorem dX4_slot_84 : decode cX4_slot 84 = .ok (.aload_n 0, 1) := by decide +kernel
theorem dX4_slot_85 : decode cX4_slot 85 = .ok (.getfield 30, 3) := by decide +kernel
theorem dX4_slot_88 : decode cX4_slot 88 = .ok (.getfield 123, 3) := by decide +kernel
theorem dX4_slot_91 : decode cX4_slot 91 = .ok (.getfield 167, 3) := by decide +kernel
theorem dX4_slot_94 : decode cX4_slot 94 = .ok (.iload 4, 2) := by decide +kernel
theorem dX4_slot_96 : decode cX4_slot 96 = .ok (.invokestatic 76, 3) := by decide +kernel
theorem dX4_slot_99 : decode cX4_slot 99 = .ok (.ifCond .ne 8, 3) := by decide +kernel
theorem dX4_slot_102 : decode cX4_slot 102 = .ok (.bipush (-6), 2) := by decide +kernel
theorem dX4_slot_104 : decode cX4_slot 104 = .ok (.goto 18, 3) := by decide +kernel
theorem dX4_slot_107 : decode cX4_slot 107 = .ok (.aload_n 0, 1) := by decide +kernel
theorem dX4_slot_108 : decode cX4_slot 108 = .ok (.getfield 30, 3) := by decide +kernel
theorem dX4_slot_111 : decode cX4_slot 111 = .ok (.getfield 123, 3) := by decide +kernel
theorem dX4_slot_114 : decode cX4_slot 114 = .ok (.getfield 170, 3) := by decide +kernel
theorem dX4_slot_117 : decode cX4_slot 117 = .ok (.iload 4, 2) := by decide +kernel
theorem dX4_slot_119 : decode cX4_slot 119 = .ok (.invokestatic 76, 3) := by decide +kernel
theorem dX4_slot_122 : decode cX4_slot 122 = .ok (.ireturn, 1) := by decide +kernel
theorem dX4_slot_123 : decode cX4_slot 123 = .ok (.aload_n 0, 1) := by decide +kernel
theorem dX4_slot_124 : decode cX4_slot 124 = .ok (.getfield 30, 3) := by decide +kernel
theorem dX4_slot_127 : decode cX4_slot 127 = .ok (.getfield 123, 3) := by decide +kernel
theorem dX4_slot_130 : decode cX4_slot 130 = .ok (.getfield 145, 3) := by decide +kernel
theorem dX4_slot_133 : decode cX4_slot 133 = .ok (.iload 4, 2) := by decide +kernel
theorem dX4_slot_135 : decode cX4_slot 135 = .ok (.invokestatic 76, 3) := by decide +kernel
theorem dX4_slot_138 : decode cX4_slot 138 = .ok (.ireturn, 1) := by decide +kernel
theorem dX4_slot_139 : decode cX4_slot 139 = .ok (.bipush (-2), 2) := by decide +kernel
theorem dX4_slot_141 : decode cX4_slot 141 = .ok (.ireturn, 1) := by decide +kernel
theorem dX4_count_0 : decode cX4_count 0 = .ok (.iload_n 1, 1) := by decide +kernel
theorem dX4_count_1 : decode cX4_count 1 = .ok (.tableswitch 188 0 11 #[63, 71, 82, 94, 106, 117, 125, 133, 156, 164, 172, 180], 63) := by decide +kernel
theorem dX4_count_64 : decode cX4_count 64 = .ok (.aload_n 0, 1) := by decide +kernel
theorem dX4_count_65 : decode cX4_count 65 = .ok (.getfield 30, 3) := by decide +kernel
theorem dX4_count_68 : decode cX4_count 68 = .ok (.getfield 173, 3) := by decide +kernel
theorem dX4_count_71 : decode cX4_count 71 = .ok (.ireturn, 1) := by decide +kernel
theorem dX4_count_72 : decode cX4_count 72 = .ok (.aload_n 0, 1) := by decide +kernel
theorem dX4_count_73 : decode cX4_count 73 = .ok (.getfield 30, 3) := by decide +kernel
theorem dX4_count_76 : decode cX4_count 76 = .ok (.getfield 123, 3) := by decide +kernel
theorem dX4_count_79 : decode cX4_count 79 = .ok (.invokevirtual 127, 3) := by decide +kernel
theorem dX4_count_82 : decode cX4_count 82 = .ok (.ireturn, 1) := by decide +kernel
theorem dX4_count_83 : decode cX4_count 83 = .ok (.aload_n 0, 1) := by decide +kernel
theorem dX4_count_84 : decode cX4_count 84 = .ok (.getfield 30, 3) := by decide +kernel
theorem dX4_count_87 : decode cX4_count 87 = .ok (.getfield 123, 3) := by decide +kernel
theorem dX4_count_90 : decode cX4_count 90 = .ok (.iconst 3, 1) := by decide +kernel
theorem dX4_count_91 : decode cX4_count 91 = .ok (.invokevirtual 174, 3) := by decide +kernel
theorem dX4_count_94 : decode cX4_count 94 = .ok (.ireturn, 1) := by decide +kernel
theorem dX4_count_95 : decode cX4_count 95 = .ok (.aload_n 0, 1) := by decide +kernel
theorem dX4_count_96 : decode cX4_count 96 = .ok (.getfield 30, 3) := by decide +kernel
theorem dX4_count_99 : decode cX4_count 99 = .ok (.getfield 123, 3) := by decide +kernel
theorem dX4_count_102 : decode cX4_count 102 = .ok (.iconst 2, 1) := by decide +kernel
theorem dX4_count_103 : decode cX4_count 103 = .ok (.invokevirtual 174, 3) := by decide +kernel
theorem dX4_count_106 : decode cX4_count 106 = .ok (.ireturn, 1) := by decide +kernel
theorem dX4_count_107 : decode cX4_count 107 = .ok (.aload_n 0, 1) := by decide +kernel
theorem dX4_count_108 : decode cX4_count 108 = .ok (.getfield 30, 3) := by decide +kernel
theorem dX4_count_111 : decode cX4_count 111 = .ok (.getfield 123, 3) := by decide +kernel
theorem dX4_count_114 : decode cX4_count 114 = .ok (.invokevirtual 177, 3) := by decide +kernel
theorem dX4_count_117 : decode cX4_count 117 = .ok (.ireturn, 1) := by decide +kernel
theorem dX4_count_118 : decode cX4_count 118 = .ok (.aload_n 0, 1) := by decide +kernel
theorem dX4_count_119 : decode cX4_count 119 = .ok (.getfield 30, 3) := by decide +kernel
theorem dX4_count_122 : decode cX4_count 122 = .ok (.invokevirtual 180, 3) := by decide +kernel
theorem dX4_count_125 : decode cX4_count 125 = .ok (.ireturn, 1) := by decide +kernel
theorem dX4_count_126 : decode cX4_count 126 = .ok (.aload_n 0, 1) := by decide +kernel
theorem dX4_count_127 : decode cX4_count 127 = .ok (.getfield 30, 3) := by decide +kernel
theorem dX4_count_130 : decode cX4_count 130 = .ok (.invokevirtual 183, 3) := by decide +kernel
theorem dX4_count_133 : decode cX4_count 133 = .ok (.ireturn, 1) := by decide +kernel
theorem dX4_count_134 : decode cX4_count 134 = .ok (.aload_n 0, 1) := by decide +kernel
theorem dX4_count_135 : decode cX4_count 135 = .ok (.getfield 30, 3) := by decide +kernel
theorem dX4_count_138 : decode cX4_count 138 = .ok (.getfield 173, 3) := by decide +kernel
theorem dX4_count_141 : decode cX4_count 141 = .ok (.ifCond .ne 8, 3) := by decide +kernel
theorem dX4_count_144 : decode cX4_count 144 = .ok (.bipush (-6), 2) := by decide +kernel
theorem dX4_count_146 : decode cX4_count 146 = .ok (.goto 10, 3) := by decide +kernel
theorem dX4_count_149 : decode cX4_count 149 = .ok (.aload_n 0, 1) := by decide +kernel
theorem dX4_count_150 : decode cX4_count 150 = .ok (.getfield 30, 3) := by decide +kernel
theorem dX4_count_153 : decode cX4_count 153 = .ok (.invokevirtual 186, 3) := by decide +kernel
theorem dX4_count_156 : decode cX4_count 156 = .ok (.ireturn, 1) := by decide +kernel
theorem dX4_count_157 : decode cX4_count 157 = .ok (.aload_n 0, 1) := by decide +kernel
theorem dX4_count_158 : decode cX4_count 158 = .ok (.getfield 30, 3) := by decide +kernel
theorem dX4_count_161 : decode cX4_count 161 = .ok (.getfield 48, 3) := by decide +kernel
theorem dX4_count_164 : decode cX4_count 164 = .ok (.ireturn, 1) := by decide +kernel
theorem dX4_count_165 : decode cX4_count 165 = .ok (.aload_n 0, 1) := by decide +kernel
theorem dX4_count_166 : decode cX4_count 166 = .ok (.getfield 30, 3) := by decide +kernel
theorem dX4_count_169 : decode cX4_count 169 = .ok (.getfield 52, 3) := by decide +kernel
theorem dX4_count_172 : decode cX4_count 172 = .ok (.ireturn, 1) := by decide +kernel
theorem dX4_count_173 : decode cX4_count 173 = .ok (.aload_n 0, 1) := by decide +kernel
theorem dX4_count_174 : decode cX4_count 174 = .ok (.getfield 12, 3) := by decide +kernel
theorem dX4_count_177 : decode cX4_count 177 = .ok (.getfield 66, 3) := by decide +kernel
theorem dX4_count_180 : decode cX4_count 180 = .ok (.ireturn, 1) := by decide +kernel
theorem dX4_count_181 : decode cX4_count 181 = .ok (.aload_n 0, 1) := by decide +kernel
theorem dX4_count_182 : decode cX4_count 182 = .ok (.getfield 19, 3) := by decide +kernel
theorem dX4_count_185 : decode cX4_count 185 = .ok (.getfield 189, 3) := by decide +kernel
theorem dX4_count_188 : decode cX4_count 188 = .ok (.ireturn, 1) := by decide +kernel
theorem dX4_count_189 : decode cX4_count 189 = .ok (.bipush (-2), 2) := by decide +kernel
theorem dX4_count_191 : decode cX4_count 191 = .ok (.ireturn, 1) := by decide +kernel
theorem dX4_key_0 : decode cX4_key 0 = .ok (.iconst 0, 1) := by decide +kernel
theorem dX4_key_1 : decode cX4_key 1 = .ok (.istore_n 2, 1) := by decide +kernel
theorem dX4_key_2 : decode cX4_key 2 = .ok (.iconst 0, 1) := by decide +kernel
theorem dX4_key_3 : decode cX4_key 3 = .ok (.istore_n 3, 1) := by decide +kernel
theorem dX4_key_4 : decode cX4_key 4 = .ok (.iload_n 3, 1) := by decide +kernel
theorem dX4_key_5 : decode cX4_key 5 = .ok (.bipush 100, 2) := by decide +kernel
theorem dX4_key_7 : decode cX4_key 7 = .ok (.if_icmp .ge 30, 3) := by decide +kernel
theorem dX4_key_10 : decode cX4_key 10 = .ok (.aload_n 0, 1) := by decide +kernel
theorem dX4_key_11 : decode cX4_key 11 = .ok (.getfield 30, 3) := by decide +kernel
theorem dX4_key_14 : decode cX4_key 14 = .ok (.iload_n 3, 1) := by decide +kernel
theorem dX4_key_15 : decode cX4_key 15 = .ok (.invokevirtual 108, 3) := by decide +kernel
theorem dX4_key_18 : decode cX4_key 18 = .ok (.ifnull 13, 3) := by decide +kernel
theorem dX4_key_21 : decode cX4_key 21 = .ok (.iload_n 2, 1) := by decide +kernel
theorem dX4_key_22 : decode cX4_key 22 = .ok (.iload_n 1, 1) := by decide +kernel
theorem dX4_key_23 : decode cX4_key 23 = .ok (.if_icmp .ne 5, 3) := by decide +kernel
theorem dX4_key_26 : decode cX4_key 26 = .ok (.iload_n 3, 1) := by decide +kernel
theorem dX4_key_27 : decode cX4_key 27 = .ok (.ireturn, 1) := by decide +kernel
theorem dX4_key_28 : decode cX4_key 28 = .ok (.iinc 2 1, 3) := by decide +kernel
theorem dX4_key_31 : decode cX4_key 31 = .ok (.iinc 3 1, 3) := by decide +kernel
theorem dX4_key_34 : decode cX4_key 34 = .ok (.goto (-30), 3) := by decide +kernel
theorem dX4_key_37 : decode cX4_key 37 = .ok (.iconst (-1), 1) := by decide +kernel
theorem dX4_key_38 : decode cX4_key 38 = .ok (.ireturn, 1) := by decide +kernel
theorem dX4_ifPacked_0 : decode cX4_ifPacked 0 = .ok (.iload_n 1, 1) := by decide +kernel
theorem dX4_ifPacked_1 : decode cX4_ifPacked 1 = .ok (.ifCond .lt 18, 3) := by decide +kernel
theorem dX4_ifPacked_4 : decode cX4_ifPacked 4 = .ok (.iload_n 1, 1) := by decide +kernel
theorem dX4_ifPacked_5 : decode cX4_ifPacked 5 = .ok (.bipush 16, 2) := by decide +kernel
theorem dX4_ifPacked_7 : decode cX4_ifPacked 7 = .ok (.if_icmp .gt 12, 3) := by decide +kernel
theorem dX4_ifPacked_10 : decode cX4_ifPacked 10 = .ok (.iload_n 2, 1) := by decide +kernel
theorem dX4_ifPacked_11 : decode cX4_ifPacked 11 = .ok (.ifCond .lt 8, 3) := by decide +kernel
theorem dX4_ifPacked_14 : decode cX4_ifPacked 14 = .ok (.iload_n 2, 1) := by decide +kernel
theorem dX4_ifPacked_15 : decode cX4_ifPacked 15 = .ok (.iconst 2, 1) := by decide +kernel
theorem dX4_ifPacked_16 : decode cX4_ifPacked 16 = .ok (.if_icmp .le 6, 3) := by decide +kernel
theorem dX4_ifPacked_19 : decode cX4_ifPacked 19 = .ok (.bipush (-2), 2) := by decide +kernel
theorem dX4_ifPacked_21 : decode cX4_ifPacked 21 = .ok (.ireturn, 1) := by decide +kernel
theorem dX4_ifPacked_22 : decode cX4_ifPacked 22 = .ok (.aload_n 0, 1) := by decide +kernel
theorem dX4_ifPacked_23 : decode cX4_ifPacked 23 = .ok (.iload_n 1, 1) := by decide +kernel
theorem dX4_ifPacked_24 : decode cX4_ifPacked 24 = .ok (.invokevirtual 120, 3) := by decide +kernel
theorem dX4_ifPacked_27 : decode cX4_ifPacked 27 = .ok (.ifCond .ne 6, 3) := by decide +kernel
theorem dX4_ifPacked_30 : decode cX4_ifPacked 30 = .ok (.bipush (-5), 2) := by decide +kernel
theorem dX4_ifPacked_32 : decode cX4_ifPacked 32 = .ok (.ireturn, 1) := by decide +kernel
theorem dX4_ifPacked_33 : decode cX4_ifPacked 33 = .ok (.iload_n 2, 1) := by decide +kernel
theorem dX4_ifPacked_34 : decode cX4_ifPacked 34 = .ok (.ifCond .ne 11, 3) := by decide +kernel
theorem dX4_ifPacked_37 : decode cX4_ifPacked 37 = .ok (.aload_n 0, 1) := by decide +kernel
theorem dX4_ifPacked_38 : decode cX4_ifPacked 38 = .ok (.getfield 34, 3) := by decide +kernel
theorem dX4_ifPacked_41 : decode cX4_ifPacked 41 = .ok (.invokevirtual 180, 3) := by decide +kernel
theorem dX4_ifPacked_44 : decode cX4_ifPacked 44 = .ok (.ireturn, 1) := by decide +kernel
theorem dX4_ifPacked_45 : decode cX4_ifPacked 45 = .ok (.iload_n 2, 1) := by decide +kernel
theorem dX4_ifPacked_46 : decode cX4_ifPacked 46 = .ok (.iconst 1, 1) := by decide +kernel
theorem dX4_ifPacked_47 : decode cX4_ifPacked 47 = .ok (.if_icmp .ne 16, 3) := by decide +kernel
theorem dX4_ifPacked_50 : decode cX4_ifPacked 50 = .ok (.aload_n 0, 1) := by decide +kernel
theorem dX4_ifPacked_51 : decode cX4_ifPacked 51 = .ok (.getfield 34, 3) := by decide +kernel
theorem dX4_ifPacked_54 : decode cX4_ifPacked 54 = .ok (.getfield 123, 3) := by decide +kernel
theorem dX4_ifPacked_57 : decode cX4_ifPacked 57 = .ok (.invokevirtual 127, 3) := by decide +kernel
theorem dX4_ifPacked_60 : decode cX4_ifPacked 60 = .ok (.goto 14, 3) := by decide +kernel
theorem dX4_ifPacked_63 : decode cX4_ifPacked 63 = .ok (.aload_n 0, 1) := by decide +kernel
theorem dX4_ifPacked_64 : decode cX4_ifPacked 64 = .ok (.getfield 34, 3) := by decide +kernel
theorem dX4_ifPacked_67 : decode cX4_ifPacked 67 = .ok (.getfield 123, 3) := by decide +kernel
theorem dX4_ifPacked_70 : decode cX4_ifPacked 70 = .ok (.iconst 2, 1) := by decide +kernel
theorem dX4_ifPacked_71 : decode cX4_ifPacked 71 = .ok (.invokevirtual 174, 3) := by decide +kernel
theorem dX4_ifPacked_74 : decode cX4_ifPacked 74 = .ok (.ireturn, 1) := by decide +kernel
theorem dX4_bestHead_0 : decode cX4_bestHead 0 = .ok (.aload_n 0, 1) := by decide +kernel
theorem dX4_bestHead_1 : decode cX4_bestHead 1 = .ok (.getfield 30, 3) := by decide +kernel
theorem dX4_bestHead_4 : decode cX4_bestHead 4 = .ok (.getfield 173, 3) := by decide +kernel
theorem dX4_bestHead_7 : decode cX4_bestHead 7 = .ok (.ifCond .ne 6, 3) := by decide +kernel
theorem dX4_bestHead_10 : decode cX4_bestHead 10 = .ok (.bipush (-6), 2) := by decide +kernel
theorem dX4_bestHead_12 : decode cX4_bestHead 12 = .ok (.ireturn, 1) := by decide +kernel
theorem dX4_bestHead_13 : decode cX4_bestHead 13 = .ok (.bipush (-6), 2) := by decide +kernel
theorem dX4_bestHead_15 : decode cX4_bestHead 15 = .ok (.istore_n 1, 1) := by decide +kernel
theorem dX4_bestHead_16 : decode cX4_bestHead 16 = .ok (.iconst 0, 1) := by decide +kernel
theorem dX4_bestHead_17 : decode cX4_bestHead 17 = .ok (.istore_n 2, 1) := by decide +kernel
theorem dX4_bestHead_18 : decode cX4_bestHead 18 = .ok (.iconst 0, 1) := by decide +kernel
theorem dX4_bestHead_19 : decode cX4_bestHead 19 = .ok (.istore_n 3, 1) := by decide +kernel
theorem dX4_bestHead_20 : decode cX4_bestHead 20 = .ok (.iload_n 3, 1) := by decide +kernel
theorem dX4_bestHead_21 : decode cX4_bestHead 21 = .ok (.bipush 16, 2) := by decide +kernel
theorem dX4_bestHead_23 : decode cX4_bestHead 23 = .ok (.if_icmp .gt 43, 3) := by decide +kernel
theorem dX4_bestHead_26 : decode cX4_bestHead 26 = .ok (.aload_n 0, 1) := by decide +kernel
theorem dX4_bestHead_27 : decode cX4_bestHead 27 = .ok (.iload_n 3, 1) := by decide +kernel
theorem dX4_bestHead_28 : decode cX4_bestHead 28 = .ok (.invokevirtual 120, 3) := by decide +kernel
theorem dX4_bestHead_31 : decode cX4_bestHead 31 = .ok (.ifCond .eq 29, 3) := by decide +kernel
theorem dX4_bestHead_34 : decode cX4_bestHead 34 = .ok (.aload_n 0, 1) := by decide +kernel
theorem dX4_bestHead_35 : decode cX4_bestHead 35 = .ok (.getfield 34, 3) := by decide +kernel
theorem dX4_bestHead_38 : decode cX4_bestHead 38 = .ok (.invokevirtual 180, 3) := by decide +kernel
theorem dX4_bestHead_41 : decode cX4_bestHead 41 = .ok (.istore 4, 2) := by decide +kernel
theorem dX4_bestHead_43 : decode cX4_bestHead 43 = .ok (.iload_n 1, 1) := by decide +kernel
theorem dX4_bestHead_44 : decode cX4_bestHead 44 = .ok (.bipush (-6), 2) := by decide +kernel
theorem dX4_bestHead_46 : decode cX4_bestHead 46 = .ok (.if_icmp .eq 9, 3) := by decide +kernel
theorem dX4_bestHead_49 : decode cX4_bestHead 49 = .ok (.iload 4, 2) := by decide +kernel
theorem dX4_bestHead_51 : decode cX4_bestHead 51 = .ok (.iload_n 2, 1) := by decide +kernel
theorem dX4_bestHead_52 : decode cX4_bestHead 52 = .ok (.if_icmp .ge 8, 3) := by decide +kernel
theorem dX4_bestHead_55 : decode cX4_bestHead 55 = .ok (.iload_n 3, 1) := by decide +kernel
theorem dX4_bestHead_56 : decode cX4_bestHead 56 = .ok (.istore_n 1, 1) := by decide +kernel
theorem dX4_bestHead_57 : decode cX4_bestHead 57 = .ok (.iload 4, 2) := by decide +kernel
theorem dX4_bestHead_59 : decode cX4_bestHead 59 = .ok (.istore_n 2, 1) := by decide +kernel
theorem dX4_bestHead_60 : decode cX4_bestHead 60 = .ok (.iinc 3 2, 3) := by decide +kernel
theorem dX4_bestHead_63 : decode cX4_bestHead 63 = .ok (.goto (-43), 3) := by decide +kernel
theorem dX4_bestHead_66 : decode cX4_bestHead 66 = .ok (.iload_n 1, 1) := by decide +kernel
theorem dX4_bestHead_67 : decode cX4_bestHead 67 = .ok (.ireturn, 1) := by decide +kernel
theorem dX4_most_0 : decode cX4_most 0 = .ok (.iload_n 1, 1) := by decide +kernel
theorem dX4_most_1 : decode cX4_most 1 = .ok (.ifCond .lt 9, 3) := by decide +kernel
theorem dX4_most_4 : decode cX4_most 4 = .ok (.iload_n 1, 1) := by decide +kernel
theorem dX4_most_5 : decode cX4_most 5 = .ok (.bipush 100, 2) := by decide +kernel
theorem dX4_most_7 : decode cX4_most 7 = .ok (.if_icmp .lt 6, 3) := by decide +kernel
theorem dX4_most_10 : decode cX4_most 10 = .ok (.bipush (-2), 2) := by decide +kernel
theorem dX4_most_12 : decode cX4_most 12 = .ok (.ireturn, 1) := by decide +kernel
theorem dX4_most_13 : decode cX4_most 13 = .ok (.bipush 40, 2) := by decide +kernel
theorem dX4_most_15 : decode cX4_most 15 = .ok (.istore_n 2, 1) := by decide +kernel
theorem dX4_most_16 : decode cX4_most 16 = .ok (.iload_n 2, 1) := by decide +kernel
theorem dX4_most_17 : decode cX4_most 17 = .ok (.ifCond .lt 34, 3) := by decide +kernel
theorem dX4_most_20 : decode cX4_most 20 = .ok (.aload_n 0, 1) := by decide +kernel
theorem dX4_most_21 : decode cX4_most 21 = .ok (.getfield 34, 3) := by decide +kernel
theorem dX4_most_24 : decode cX4_most 24 = .ok (.aload_n 0, 1) := by decide +kernel
theorem dX4_most_25 : decode cX4_most 25 = .ok (.getfield 30, 3) := by decide +kernel
theorem dX4_most_28 : decode cX4_most 28 = .ok (.invokevirtual 69, 3) := by decide +kernel
theorem dX4_most_31 : decode cX4_most 31 = .ok (.aload_n 0, 1) := by decide +kernel
theorem dX4_most_32 : decode cX4_most 32 = .ok (.getfield 34, 3) := by decide +kernel
theorem dX4_most_35 : decode cX4_most 35 = .ok (.iload_n 1, 1) := by decide +kernel
theorem dX4_most_36 : decode cX4_most 36 = .ok (.iload_n 2, 1) := by decide +kernel
theorem dX4_most_37 : decode cX4_most 37 = .ok (.invokevirtual 83, 3) := by decide +kernel
theorem dX4_most_40 : decode cX4_most 40 = .ok (.ifnull 5, 3) := by decide +kernel
theorem dX4_most_43 : decode cX4_most 43 = .ok (.iload_n 2, 1) := by decide +kernel
theorem dX4_most_44 : decode cX4_most 44 = .ok (.ireturn, 1) := by decide +kernel
theorem dX4_most_45 : decode cX4_most 45 = .ok (.iinc 2 (-1), 3) := by decide +kernel
theorem dX4_most_48 : decode cX4_most 48 = .ok (.goto (-32), 3) := by decide +kernel
theorem dX4_most_51 : decode cX4_most 51 = .ok (.bipush (-6), 2) := by decide +kernel
theorem dX4_most_53 : decode cX4_most 53 = .ok (.ireturn, 1) := by decide +kernel
theorem dX4_put_0 : decode cX4_put 0 = .ok (.lload_n 1, 1) := by decide +kernel
theorem dX4_put_1 : decode cX4_put 1 = .ok (.invokestatic 192, 3) := by decide +kernel
theorem dX4_put_4 : decode cX4_put 4 = .ok (.istore_n 3, 1) := by decide +kernel
theorem dX4_put_5 : decode cX4_put 5 = .ok (.iload_n 3, 1) := by decide +kernel
theorem dX4_put_6 : decode cX4_put 6 = .ok (.ifCond .ne 6, 3) := by decide +kernel
theorem dX4_put_9 : decode cX4_put 9 = .ok (.bipush (-2), 2) := by decide +kernel
theorem dX4_put_11 : decode cX4_put 11 = .ok (.ireturn, 1) := by decide +kernel
theorem dX4_put_12 : decode cX4_put 12 = .ok (.aload_n 0, 1) := by decide +kernel
theorem dX4_put_13 : decode cX4_put 13 = .ok (.getfield 12, 3) := by decide +kernel
theorem dX4_put_16 : decode cX4_put 16 = .ok (.getfield 66, 3) := by decide +kernel
theorem dX4_put_19 : decode cX4_put 19 = .ok (.iload_n 3, 1) := by decide +kernel
theorem dX4_put_20 : decode cX4_put 20 = .ok (.iadd, 1) := by decide +kernel
theorem dX4_put_21 : decode cX4_put 21 = .ok (.bipush 80, 2) := by decide +kernel
theorem dX4_put_23 : decode cX4_put 23 = .ok (.if_icmp .le 6, 3) := by decide +kernel
theorem dX4_put_26 : decode cX4_put 26 = .ok (.bipush (-4), 2) := by decide +kernel
theorem dX4_put_28 : decode cX4_put 28 = .ok (.ireturn, 1) := by decide +kernel
theorem dX4_put_29 : decode cX4_put 29 = .ok (.iload_n 3, 1) := by decide +kernel
theorem dX4_put_30 : decode cX4_put 30 = .ok (.iconst 1, 1) := by decide +kernel
theorem dX4_put_31 : decode cX4_put 31 = .ok (.isub, 1) := by decide +kernel
theorem dX4_put_32 : decode cX4_put 32 = .ok (.istore 4, 2) := by decide +kernel
theorem dX4_put_34 : decode cX4_put 34 = .ok (.iload 4, 2) := by decide +kernel
theorem dX4_put_36 : decode cX4_put 36 = .ok (.ifCond .lt 45, 3) := by decide +kernel
theorem dX4_put_39 : decode cX4_put 39 = .ok (.aload_n 0, 1) := by decide +kernel
theorem dX4_put_40 : decode cX4_put 40 = .ok (.getfield 12, 3) := by decide +kernel
theorem dX4_put_43 : decode cX4_put 43 = .ok (.getfield 98, 3) := by decide +kernel
theorem dX4_put_46 : decode cX4_put 46 = .ok (.aload_n 0, 1) := by decide +kernel
theorem dX4_put_47 : decode cX4_put 47 = .ok (.getfield 12, 3) := by decide +kernel
theorem dX4_put_50 : decode cX4_put 50 = .ok (.getfield 66, 3) := by decide +kernel
theorem dX4_put_53 : decode cX4_put 53 = .ok (.lload_n 1, 1) := by decide +kernel
theorem dX4_put_54 : decode cX4_put 54 = .ok (.iload 4, 2) := by decide +kernel
theorem dX4_put_56 : decode cX4_put 56 = .ok (.invokestatic 196, 3) := by decide +kernel
theorem dX4_put_59 : decode cX4_put 59 = .ok (.invokestatic 101, 3) := by decide +kernel
theorem dX4_put_62 : decode cX4_put 62 = .ok (.aload_n 0, 1) := by decide +kernel
theorem dX4_put_63 : decode cX4_put 63 = .ok (.getfield 12, 3) := by decide +kernel
theorem dX4_put_66 : decode cX4_put 66 = .ok (.dup, 1) := by decide +kernel
theorem dX4_put_67 : decode cX4_put 67 = .ok (.getfield 66, 3) := by decide +kernel
theorem dX4_put_70 : decode cX4_put 70 = .ok (.iconst 1, 1) := by decide +kernel
theorem dX4_put_71 : decode cX4_put 71 = .ok (.iadd, 1) := by decide +kernel
theorem dX4_put_72 : decode cX4_put 72 = .ok (.putfield 66, 3) := by decide +kernel
theorem dX4_put_75 : decode cX4_put 75 = .ok (.iinc 4 (-1), 3) := by decide +kernel
theorem dX4_put_78 : decode cX4_put 78 = .ok (.goto (-44), 3) := by decide +kernel
theorem dX4_put_81 : decode cX4_put 81 = .ok (.aload_n 0, 1) := by decide +kernel
theorem dX4_put_82 : decode cX4_put 82 = .ok (.getfield 12, 3) := by decide +kernel
theorem dX4_put_85 : decode cX4_put 85 = .ok (.getfield 66, 3) := by decide +kernel
theorem dX4_put_88 : decode cX4_put 88 = .ok (.ireturn, 1) := by decide +kernel
theorem dX4_signsIn_0 : decode cX4_signsIn 0 = .ok (.iconst 0, 1) := by decide +kernel
theorem dX4_signsIn_1 : decode cX4_signsIn 1 = .ok (.istore_n 2, 1) := by decide +kernel
theorem dX4_signsIn_2 : decode cX4_signsIn 2 = .ok (.iload_n 2, 1) := by decide +kernel
theorem dX4_signsIn_3 : decode cX4_signsIn 3 = .ok (.bipush 8, 2) := by decide +kernel
theorem dX4_signsIn_5 : decode cX4_signsIn 5 = .ok (.if_icmp .ge 37, 3) := by decide +kernel
theorem dX4_signsIn_8 : decode cX4_signsIn 8 = .ok (.lload_n 0, 1) := by decide +kernel
theorem dX4_signsIn_9 : decode cX4_signsIn 9 = .ok (.iload_n 2, 1) := by decide +kernel
theorem dX4_signsIn_10 : decode cX4_signsIn 10 = .ok (.invokestatic 196, 3) := by decide +kernel
theorem dX4_signsIn_13 : decode cX4_signsIn 13 = .ok (.ifCond .eq 29, 3) := by decide +kernel
theorem dX4_signsIn_16 : decode cX4_signsIn 16 = .ok (.lload_n 0, 1) := by decide +kernel
theorem dX4_signsIn_17 : decode cX4_signsIn 17 = .ok (.iload_n 2, 1) := by decide +kernel
theorem dX4_signsIn_18 : decode cX4_signsIn 18 = .ok (.invokestatic 196, 3) := by decide +kernel
theorem dX4_signsIn_21 : decode cX4_signsIn 21 = .ok (.istore_n 3, 1) := by decide +kernel
theorem dX4_signsIn_22 : decode cX4_signsIn 22 = .ok (.iload_n 3, 1) := by decide +kernel
theorem dX4_signsIn_23 : decode cX4_signsIn 23 = .ok (.bipush 33, 2) := by decide +kernel
theorem dX4_signsIn_25 : decode cX4_signsIn 25 = .ok (.if_icmp .lt 9, 3) := by decide +kernel
theorem dX4_signsIn_28 : decode cX4_signsIn 28 = .ok (.iload_n 3, 1) := by decide +kernel
theorem dX4_signsIn_29 : decode cX4_signsIn 29 = .ok (.bipush 126, 2) := by decide +kernel
theorem dX4_signsIn_31 : decode cX4_signsIn 31 = .ok (.if_icmp .le 5, 3) := by decide +kernel
theorem dX4_signsIn_34 : decode cX4_signsIn 34 = .ok (.iconst 0, 1) := by decide +kernel
theorem dX4_signsIn_35 : decode cX4_signsIn 35 = .ok (.ireturn, 1) := by decide +kernel
theorem dX4_signsIn_36 : decode cX4_signsIn 36 = .ok (.iinc 2 1, 3) := by decide +kernel
theorem dX4_signsIn_39 : decode cX4_signsIn 39 = .ok (.goto (-37), 3) := by decide +kernel
theorem dX4_signsIn_42 : decode cX4_signsIn 42 = .ok (.iload_n 2, 1) := by decide +kernel
theorem dX4_signsIn_43 : decode cX4_signsIn 43 = .ok (.bipush 8, 2) := by decide +kernel
theorem dX4_signsIn_45 : decode cX4_signsIn 45 = .ok (.if_icmp .ge 18, 3) := by decide +kernel
theorem dX4_signsIn_48 : decode cX4_signsIn 48 = .ok (.lload_n 0, 1) := by decide +kernel
theorem dX4_signsIn_49 : decode cX4_signsIn 49 = .ok (.bipush 8, 2) := by decide +kernel
theorem dX4_signsIn_51 : decode cX4_signsIn 51 = .ok (.iload_n 2, 1) := by decide +kernel
theorem dX4_signsIn_52 : decode cX4_signsIn 52 = .ok (.imul, 1) := by decide +kernel
theorem dX4_signsIn_53 : decode cX4_signsIn 53 = .ok (.lushr, 1) := by decide +kernel
theorem dX4_signsIn_54 : decode cX4_signsIn 54 = .ok (.lconst 0, 1) := by decide +kernel
theorem dX4_signsIn_55 : decode cX4_signsIn 55 = .ok (.lcmp, 1) := by decide +kernel
theorem dX4_signsIn_56 : decode cX4_signsIn 56 = .ok (.ifCond .eq 7, 3) := by decide +kernel
theorem dX4_signsIn_59 : decode cX4_signsIn 59 = .ok (.iconst 1, 1) := by decide +kernel
theorem dX4_signsIn_60 : decode cX4_signsIn 60 = .ok (.goto 4, 3) := by decide +kernel
theorem dX4_signsIn_63 : decode cX4_signsIn 63 = .ok (.iconst 0, 1) := by decide +kernel
theorem dX4_signsIn_64 : decode cX4_signsIn 64 = .ok (.istore_n 3, 1) := by decide +kernel
theorem dX4_signsIn_65 : decode cX4_signsIn 65 = .ok (.iload_n 3, 1) := by decide +kernel
theorem dX4_signsIn_66 : decode cX4_signsIn 66 = .ok (.ifCond .eq 7, 3) := by decide +kernel
theorem dX4_signsIn_69 : decode cX4_signsIn 69 = .ok (.iconst 0, 1) := by decide +kernel
theorem dX4_signsIn_70 : decode cX4_signsIn 70 = .ok (.goto 4, 3) := by decide +kernel
theorem dX4_signsIn_73 : decode cX4_signsIn 73 = .ok (.iload_n 2, 1) := by decide +kernel
theorem dX4_signsIn_74 : decode cX4_signsIn 74 = .ok (.ireturn, 1) := by decide +kernel
theorem dX4_signOf_0 : decode cX4_signOf 0 = .ok (.lload_n 0, 1) := by decide +kernel
theorem dX4_signOf_1 : decode cX4_signOf 1 = .ok (.bipush 8, 2) := by decide +kernel
theorem dX4_signOf_3 : decode cX4_signOf 3 = .ok (.iload_n 2, 1) := by decide +kernel
theorem dX4_signOf_4 : decode cX4_signOf 4 = .ok (.imul, 1) := by decide +kernel
theorem dX4_signOf_5 : decode cX4_signOf 5 = .ok (.lushr, 1) := by decide +kernel
theorem dX4_signOf_6 : decode cX4_signOf 6 = .ok (.l2i, 1) := by decide +kernel
theorem dX4_signOf_7 : decode cX4_signOf 7 = .ok (.sipush 255, 3) := by decide +kernel
theorem dX4_signOf_10 : decode cX4_signOf 10 = .ok (.iand, 1) := by decide +kernel
theorem dX4_signOf_11 : decode cX4_signOf 11 = .ok (.ireturn, 1) := by decide +kernel
theorem dX4_wipe_0 : decode cX4_wipe 0 = .ok (.aload_n 0, 1) := by decide +kernel
theorem dX4_wipe_1 : decode cX4_wipe 1 = .ok (.getfield 12, 3) := by decide +kernel
theorem dX4_wipe_4 : decode cX4_wipe 4 = .ok (.getfield 66, 3) := by decide +kernel
theorem dX4_wipe_7 : decode cX4_wipe 7 = .ok (.istore_n 1, 1) := by decide +kernel
theorem dX4_wipe_8 : decode cX4_wipe 8 = .ok (.aload_n 0, 1) := by decide +kernel
theorem dX4_wipe_9 : decode cX4_wipe 9 = .ok (.getfield 12, 3) := by decide +kernel
theorem dX4_wipe_12 : decode cX4_wipe 12 = .ok (.iconst 0, 1) := by decide +kernel
theorem dX4_wipe_13 : decode cX4_wipe 13 = .ok (.putfield 66, 3) := by decide +kernel
theorem dX4_wipe_16 : decode cX4_wipe 16 = .ok (.iload_n 1, 1) := by decide +kernel
theorem dX4_wipe_17 : decode cX4_wipe 17 = .ok (.ireturn, 1) := by decide +kernel
theorem dX4_at_0 : decode cX4_at 0 = .ok (.iload_n 1, 1) := by decide +kernel
theorem dX4_at_1 : decode cX4_at 1 = .ok (.ifCond .lt 9, 3) := by decide +kernel
theorem dX4_at_4 : decode cX4_at 4 = .ok (.iload_n 1, 1) := by decide +kernel
theorem dX4_at_5 : decode cX4_at 5 = .ok (.aload_n 0, 1) := by decide +kernel
theorem dX4_at_6 : decode cX4_at 6 = .ok (.arraylength, 1) := by decide +kernel
theorem dX4_at_7 : decode cX4_at 7 = .ok (.if_icmp .lt 7, 3) := by decide +kernel
theorem dX4_at_10 : decode cX4_at 10 = .ok (.iconst (-1), 1) := by decide +kernel
theorem dX4_at_11 : decode cX4_at 11 = .ok (.goto 6, 3) := by decide +kernel
theorem dX4_at_14 : decode cX4_at 14 = .ok (.aload_n 0, 1) := by decide +kernel
theorem dX4_at_15 : decode cX4_at 15 = .ok (.iload_n 1, 1) := by decide +kernel
theorem dX4_at_16 : decode cX4_at 16 = .ok (.iaload, 1) := by decide +kernel
theorem dX4_at_17 : decode cX4_at 17 = .ok (.ireturn, 1) := by decide +kernel
theorem dX4_store_0 : decode cX4_store 0 = .ok (.iload_n 1, 1) := by decide +kernel
theorem dX4_store_1 : decode cX4_store 1 = .ok (.ifCond .lt 13, 3) := by decide +kernel
theorem dX4_store_4 : decode cX4_store 4 = .ok (.iload_n 1, 1) := by decide +kernel
theorem dX4_store_5 : decode cX4_store 5 = .ok (.aload_n 0, 1) := by decide +kernel
theorem dX4_store_6 : decode cX4_store 6 = .ok (.arraylength, 1) := by decide +kernel
theorem dX4_store_7 : decode cX4_store 7 = .ok (.if_icmp .ge 7, 3) := by decide +kernel
theorem dX4_store_10 : decode cX4_store 10 = .ok (.aload_n 0, 1) := by decide +kernel
theorem dX4_store_11 : decode cX4_store 11 = .ok (.iload_n 1, 1) := by decide +kernel
theorem dX4_store_12 : decode cX4_store 12 = .ok (.iload_n 2, 1) := by decide +kernel
theorem dX4_store_13 : decode cX4_store 13 = .ok (.iastore, 1) := by decide +kernel
theorem dX4_store_14 : decode cX4_store 14 = .ok (.return_, 1) := by decide +kernel
theorem dJ9_floorMod_7cf53_0 : decode cJ9_floorMod_7cf53 0 = .ok (.iload_n 0, 1) := by decide +kernel
theorem dJ9_floorMod_7cf53_1 : decode cJ9_floorMod_7cf53 1 = .ok (.iload_n 1, 1) := by decide +kernel
theorem dJ9_floorMod_7cf53_2 : decode cJ9_floorMod_7cf53 2 = .ok (.irem, 1) := by decide +kernel
theorem dJ9_floorMod_7cf53_3 : decode cJ9_floorMod_7cf53 3 = .ok (.istore_n 2, 1) := by decide +kernel
theorem dJ9_floorMod_7cf53_4 : decode cJ9_floorMod_7cf53 4 = .ok (.iload_n 0, 1) := by decide +kernel
theorem dJ9_floorMod_7cf53_5 : decode cJ9_floorMod_7cf53 5 = .ok (.iload_n 1, 1) := by decide +kernel
theorem dJ9_floorMod_7cf53_6 : decode cJ9_floorMod_7cf53 6 = .ok (.ixor, 1) := by decide +kernel
theorem dJ9_floorMod_7cf53_7 : decode cJ9_floorMod_7cf53 7 = .ok (.ifCond .ge 11, 3) := by decide +kernel
theorem dJ9_floorMod_7cf53_10 : decode cJ9_floorMod_7cf53 10 = .ok (.iload_n 2, 1) := by decide +kernel
theorem dJ9_floorMod_7cf53_11 : decode cJ9_floorMod_7cf53 11 = .ok (.ifCond .eq 7, 3) := by decide +kernel
theorem dJ9_floorMod_7cf53_14 : decode cJ9_floorMod_7cf53 14 = .ok (.iload_n 2, 1) := by decide +kernel
theorem dJ9_floorMod_7cf53_15 : decode cJ9_floorMod_7cf53 15 = .ok (.iload_n 1, 1) := by decide +kernel
theorem dJ9_floorMod_7cf53_16 : decode cJ9_floorMod_7cf53 16 = .ok (.iadd, 1) := by decide +kernel
theorem dJ9_floorMod_7cf53_17 : decode cJ9_floorMod_7cf53 17 = .ok (.ireturn, 1) := by decide +kernel
theorem dJ9_floorMod_7cf53_18 : decode cJ9_floorMod_7cf53 18 = .ok (.iload_n 2, 1) := by decide +kernel
theorem dJ9_floorMod_7cf53_19 : decode cJ9_floorMod_7cf53 19 = .ok (.ireturn, 1) := by decide +kernel
theorem dJ9_max_7cf53_0 : decode cJ9_max_7cf53 0 = .ok (.iload_n 0, 1) := by decide +kernel
theorem dJ9_max_7cf53_1 : decode cJ9_max_7cf53 1 = .ok (.iload_n 1, 1) := by decide +kernel
theorem dJ9_max_7cf53_2 : decode cJ9_max_7cf53 2 = .ok (.if_icmp .lt 7, 3) := by decide +kernel
theorem dJ9_max_7cf53_5 : decode cJ9_max_7cf53 5 = .ok (.iload_n 0, 1) := by decide +kernel
theorem dJ9_max_7cf53_6 : decode cJ9_max_7cf53 6 = .ok (.goto 4, 3) := by decide +kernel
theorem dJ9_max_7cf53_9 : decode cJ9_max_7cf53 9 = .ok (.iload_n 1, 1) := by decide +kernel
theorem dJ9_max_7cf53_10 : decode cJ9_max_7cf53 10 = .ok (.ireturn, 1) := by decide +kernel
theorem dJ9_min_7cf53_0 : decode cJ9_min_7cf53 0 = .ok (.iload_n 0, 1) := by decide +kernel
theorem dJ9_min_7cf53_1 : decode cJ9_min_7cf53 1 = .ok (.iload_n 1, 1) := by decide +kernel
theorem dJ9_min_7cf53_2 : decode cJ9_min_7cf53 2 = .ok (.if_icmp .gt 7, 3) := by decide +kernel
theorem dJ9_min_7cf53_5 : decode cJ9_min_7cf53 5 = .ok (.iload_n 0, 1) := by decide +kernel
theorem dJ9_min_7cf53_6 : decode cJ9_min_7cf53 6 = .ok (.goto 4, 3) := by decide +kernel
theorem dJ9_min_7cf53_9 : decode cJ9_min_7cf53 9 = .ok (.iload_n 1, 1) := by decide +kernel
theorem dJ9_min_7cf53_10 : decode cJ9_min_7cf53 10 = .ok (.ireturn, 1) := by decide +kernel
theorem dJ7_fill_53178_0 : decode cJ7_fill_53178 0 = .ok (.iconst 0, 1) := by decide +kernel
theorem dJ7_fill_53178_1 : decode cJ7_fill_53178 1 = .ok (.istore_n 2, 1) := by decide +kernel
theorem dJ7_fill_53178_2 : decode cJ7_fill_53178 2 = .ok (.aload_n 0, 1) := by decide +kernel
theorem dJ7_fill_53178_3 : decode cJ7_fill_53178 3 = .ok (.arraylength, 1) := by decide +kernel
theorem dJ7_fill_53178_4 : decode cJ7_fill_53178 4 = .ok (.istore_n 3, 1) := by decide +kernel
theorem dJ7_fill_53178_5 : decode cJ7_fill_53178 5 = .ok (.iload_n 2, 1) := by decide +kernel
theorem dJ7_fill_53178_6 : decode cJ7_fill_53178 6 = .ok (.iload_n 3, 1) := by decide +kernel
theorem dJ7_fill_53178_7 : decode cJ7_fill_53178 7 = .ok (.if_icmp .ge 13, 3) := by decide +kernel
theorem dJ7_fill_53178_10 : decode cJ7_fill_53178 10 = .ok (.aload_n 0, 1) := by decide +kernel
theorem dJ7_fill_53178_11 : decode cJ7_fill_53178 11 = .ok (.iload_n 2, 1) := by decide +kernel
theorem dJ7_fill_53178_12 : decode cJ7_fill_53178 12 = .ok (.iload_n 1, 1) := by decide +kernel
theorem dJ7_fill_53178_13 : decode cJ7_fill_53178 13 = .ok (.iastore, 1) := by decide +kernel
theorem dJ7_fill_53178_14 : decode cJ7_fill_53178 14 = .ok (.iinc 2 1, 3) := by decide +kernel
theorem dJ7_fill_53178_17 : decode cJ7_fill_53178 17 = .ok (.goto (-12), 3) := by decide +kernel
theorem dJ7_fill_53178_20 : decode cJ7_fill_53178 20 = .ok (.return_, 1) := by decide +kernel
theorem dL_cell_0 : decode cL_cell 0 = .ok (.iload_n 1, 1) := by decide +kernel
theorem dL_cell_1 : decode cL_cell 1 = .ok (.aload_n 0, 1) := by decide +kernel
theorem dL_cell_2 : decode cL_cell 2 = .ok (.arraylength, 1) := by decide +kernel
theorem dL_cell_3 : decode cL_cell 3 = .ok (.if_icmp .ge 9, 3) := by decide +kernel
theorem dL_cell_6 : decode cL_cell 6 = .ok (.aload_n 0, 1) := by decide +kernel
theorem dL_cell_7 : decode cL_cell 7 = .ok (.iload_n 1, 1) := by decide +kernel
theorem dL_cell_8 : decode cL_cell 8 = .ok (.iaload, 1) := by decide +kernel
theorem dL_cell_9 : decode cL_cell 9 = .ok (.goto 12, 3) := by decide +kernel
theorem dL_cell_12 : decode cL_cell 12 = .ok (.ldc 7, 2) := by decide +kernel
theorem dL_cell_14 : decode cL_cell 14 = .ok (.iload_n 1, 1) := by decide +kernel
theorem dL_cell_15 : decode cL_cell 15 = .ok (.iconst 1, 1) := by decide +kernel
theorem dL_cell_16 : decode cL_cell 16 = .ok (.iadd, 1) := by decide +kernel
theorem dL_cell_17 : decode cL_cell 17 = .ok (.imul, 1) := by decide +kernel
theorem dL_cell_18 : decode cL_cell 18 = .ok (.ldc 8, 2) := by decide +kernel
theorem dL_cell_20 : decode cL_cell 20 = .ok (.iadd, 1) := by decide +kernel
theorem dL_cell_21 : decode cL_cell 21 = .ok (.ireturn, 1) := by decide +kernel
theorem dL_low_0 : decode cL_low 0 = .ok (.iload_n 0, 1) := by decide +kernel
theorem dL_low_1 : decode cL_low 1 = .ok (.ldc 9, 2) := by decide +kernel
theorem dL_low_3 : decode cL_low 3 = .ok (.iand, 1) := by decide +kernel
theorem dL_low_4 : decode cL_low 4 = .ok (.iload_n 1, 1) := by decide +kernel
theorem dL_low_5 : decode cL_low 5 = .ok (.irem, 1) := by decide +kernel
theorem dL_low_6 : decode cL_low 6 = .ok (.ireturn, 1) := by decide +kernel
theorem dL_cells_0 : decode cL_cells 0 = .ok (.iload_n 0, 1) := by decide +kernel
theorem dL_cells_1 : decode cL_cells 1 = .ok (.bipush 14, 2) := by decide +kernel
theorem dL_cells_3 : decode cL_cells 3 = .ok (.ishr, 1) := by decide +kernel
theorem dL_cells_4 : decode cL_cells 4 = .ok (.iconst 3, 1) := by decide +kernel
theorem dL_cells_5 : decode cL_cells 5 = .ok (.iand, 1) := by decide +kernel
theorem dL_cells_6 : decode cL_cells 6 = .ok (.istore_n 1, 1) := by decide +kernel
theorem dL_cells_7 : decode cL_cells 7 = .ok (.iload_n 1, 1) := by decide +kernel
theorem dL_cells_8 : decode cL_cells 8 = .ok (.iconst 3, 1) := by decide +kernel
theorem dL_cells_9 : decode cL_cells 9 = .ok (.if_icmp .ne 7, 3) := by decide +kernel
theorem dL_cells_12 : decode cL_cells 12 = .ok (.iconst 1, 1) := by decide +kernel
theorem dL_cells_13 : decode cL_cells 13 = .ok (.goto 11, 3) := by decide +kernel
theorem dL_cells_16 : decode cL_cells 16 = .ok (.iconst 3, 1) := by decide +kernel
theorem dL_cells_17 : decode cL_cells 17 = .ok (.iload_n 1, 1) := by decide +kernel
theorem dL_cells_18 : decode cL_cells 18 = .ok (.isub, 1) := by decide +kernel
theorem dL_cells_19 : decode cL_cells 19 = .ok (.iload_n 0, 1) := by decide +kernel
theorem dL_cells_20 : decode cL_cells 20 = .ok (.bipush 31, 2) := by decide +kernel
theorem dL_cells_22 : decode cL_cells 22 = .ok (.iand, 1) := by decide +kernel
theorem dL_cells_23 : decode cL_cells 23 = .ok (.iadd, 1) := by decide +kernel
theorem dL_cells_24 : decode cL_cells 24 = .ok (.ireturn, 1) := by decide +kernel
theorem dL_free_0 : decode cL_free 0 = .ok (.bipush 40, 2) := by decide +kernel
theorem dL_free_2 : decode cL_free 2 = .ok (.istore_n 3, 1) := by decide +kernel
theorem dL_free_3 : decode cL_free 3 = .ok (.iconst 0, 1) := by decide +kernel
theorem dL_free_4 : decode cL_free 4 = .ok (.istore 4, 2) := by decide +kernel
theorem dL_free_6 : decode cL_free 6 = .ok (.iload 4, 2) := by decide +kernel
theorem dL_free_8 : decode cL_free 8 = .ok (.iload_n 2, 1) := by decide +kernel
theorem dL_free_9 : decode cL_free 9 = .ok (.if_icmp .ge 37, 3) := by decide +kernel
theorem dL_free_12 : decode cL_free 12 = .ok (.iload_n 3, 1) := by decide +kernel
theorem dL_free_13 : decode cL_free 13 = .ok (.aload_n 1, 1) := by decide +kernel
theorem dL_free_14 : decode cL_free 14 = .ok (.iload 4, 2) := by decide +kernel
theorem dL_free_16 : decode cL_free 16 = .ok (.iaload, 1) := by decide +kernel
theorem dL_free_17 : decode cL_free 17 = .ok (.bipush 16, 2) := by decide +kernel
theorem dL_free_19 : decode cL_free 19 = .ok (.ishr, 1) := by decide +kernel
theorem dL_free_20 : decode cL_free 20 = .ok (.bipush 40, 2) := by decide +kernel
theorem dL_free_22 : decode cL_free 22 = .ok (.idiv, 1) := by decide +kernel
theorem dL_free_23 : decode cL_free 23 = .ok (.iload_n 0, 1) := by decide +kernel
theorem dL_free_24 : decode cL_free 24 = .ok (.if_icmp .ne 13, 3) := by decide +kernel
theorem dL_free_27 : decode cL_free 27 = .ok (.aload_n 1, 1) := by decide +kernel
theorem dL_free_28 : decode cL_free 28 = .ok (.iload 4, 2) := by decide +kernel
theorem dL_free_30 : decode cL_free 30 = .ok (.iaload, 1) := by decide +kernel
theorem dL_free_31 : decode cL_free 31 = .ok (.invokestatic 10, 3) := by decide +kernel
theorem dL_free_34 : decode cL_free 34 = .ok (.goto 4, 3) := by decide +kernel
theorem dL_free_37 : decode cL_free 37 = .ok (.iconst 0, 1) := by decide +kernel
theorem dL_free_38 : decode cL_free 38 = .ok (.isub, 1) := by decide +kernel
theorem dL_free_39 : decode cL_free 39 = .ok (.istore_n 3, 1) := by decide +kernel
theorem dL_free_40 : decode cL_free 40 = .ok (.iinc 4 1, 3) := by decide +kernel
theorem dL_free_43 : decode cL_free 43 = .ok (.goto (-37), 3) := by decide +kernel
theorem dL_free_46 : decode cL_free 46 = .ok (.iload_n 3, 1) := by decide +kernel
theorem dL_free_47 : decode cL_free 47 = .ok (.ireturn, 1) := by decide +kernel
theorem dL_at_0 : decode cL_at 0 = .ok (.iconst 0, 1) := by decide +kernel
theorem dL_at_1 : decode cL_at 1 = .ok (.istore_n 3, 1) := by decide +kernel
theorem dL_at_2 : decode cL_at 2 = .ok (.iload_n 3, 1) := by decide +kernel
theorem dL_at_3 : decode cL_at 3 = .ok (.iload_n 2, 1) := by decide +kernel
theorem dL_at_4 : decode cL_at 4 = .ok (.if_icmp .ge 21, 3) := by decide +kernel
theorem dL_at_7 : decode cL_at 7 = .ok (.aload_n 1, 1) := by decide +kernel
theorem dL_at_8 : decode cL_at 8 = .ok (.iload_n 3, 1) := by decide +kernel
theorem dL_at_9 : decode cL_at 9 = .ok (.iaload, 1) := by decide +kernel
theorem dL_at_10 : decode cL_at 10 = .ok (.bipush 16, 2) := by decide +kernel
theorem dL_at_12 : decode cL_at 12 = .ok (.ishr, 1) := by decide +kernel
theorem dL_at_13 : decode cL_at 13 = .ok (.iload_n 0, 1) := by decide +kernel
theorem dL_at_14 : decode cL_at 14 = .ok (.if_icmp .ne 5, 3) := by decide +kernel
theorem dL_at_17 : decode cL_at 17 = .ok (.iload_n 3, 1) := by decide +kernel
theorem dL_at_18 : decode cL_at 18 = .ok (.ireturn, 1) := by decide +kernel
theorem dL_at_19 : decode cL_at 19 = .ok (.iinc 3 1, 3) := by decide +kernel
theorem dL_at_22 : decode cL_at 22 = .ok (.goto (-20), 3) := by decide +kernel
theorem dL_at_25 : decode cL_at 25 = .ok (.iconst (-1), 1) := by decide +kernel
theorem dL_at_26 : decode cL_at 26 = .ok (.ireturn, 1) := by decide +kernel
theorem dL_find_0 : decode cL_find 0 = .ok (.iconst 0, 1) := by decide +kernel
theorem dL_find_1 : decode cL_find 1 = .ok (.istore 5, 2) := by decide +kernel
theorem dL_find_3 : decode cL_find 3 = .ok (.iload 5, 2) := by decide +kernel
theorem dL_find_5 : decode cL_find 5 = .ok (.iload 4, 2) := by decide +kernel
theorem dL_find_7 : decode cL_find 7 = .ok (.if_icmp .ge 52, 3) := by decide +kernel
theorem dL_find_10 : decode cL_find 10 = .ok (.aload_n 3, 1) := by decide +kernel
theorem dL_find_11 : decode cL_find 11 = .ok (.iload 5, 2) := by decide +kernel
theorem dL_find_13 : decode cL_find 13 = .ok (.iaload, 1) := by decide +kernel
theorem dL_find_14 : decode cL_find 14 = .ok (.bipush 14, 2) := by decide +kernel
theorem dL_find_16 : decode cL_find 16 = .ok (.ishr, 1) := by decide +kernel
theorem dL_find_17 : decode cL_find 17 = .ok (.iconst 3, 1) := by decide +kernel
theorem dL_find_18 : decode cL_find 18 = .ok (.iand, 1) := by decide +kernel
theorem dL_find_19 : decode cL_find 19 = .ok (.iload_n 0, 1) := by decide +kernel
theorem dL_find_20 : decode cL_find 20 = .ok (.if_icmp .ne 33, 3) := by decide +kernel
theorem dL_find_23 : decode cL_find 23 = .ok (.aload_n 3, 1) := by decide +kernel
theorem dL_find_24 : decode cL_find 24 = .ok (.iload 5, 2) := by decide +kernel
theorem dL_find_26 : decode cL_find 26 = .ok (.iaload, 1) := by decide +kernel
theorem dL_find_27 : decode cL_find 27 = .ok (.bipush 11, 2) := by decide +kernel
theorem dL_find_29 : decode cL_find 29 = .ok (.ishr, 1) := by decide +kernel
theorem dL_find_30 : decode cL_find 30 = .ok (.bipush 7, 2) := by decide +kernel
theorem dL_find_32 : decode cL_find 32 = .ok (.iand, 1) := by decide +kernel
theorem dL_find_33 : decode cL_find 33 = .ok (.iload_n 1, 1) := by decide +kernel
theorem dL_find_34 : decode cL_find 34 = .ok (.if_icmp .ne 19, 3) := by decide +kernel
theorem dL_find_37 : decode cL_find 37 = .ok (.aload_n 3, 1) := by decide +kernel
theorem dL_find_38 : decode cL_find 38 = .ok (.iload 5, 2) := by decide +kernel
theorem dL_find_40 : decode cL_find 40 = .ok (.iaload, 1) := by decide +kernel
theorem dL_find_41 : decode cL_find 41 = .ok (.iconst 5, 1) := by decide +kernel
theorem dL_find_42 : decode cL_find 42 = .ok (.ishr, 1) := by decide +kernel
theorem dL_find_43 : decode cL_find 43 = .ok (.bipush 63, 2) := by decide +kernel
theorem dL_find_45 : decode cL_find 45 = .ok (.iand, 1) := by decide +kernel
theorem dL_find_46 : decode cL_find 46 = .ok (.iload_n 2, 1) := by decide +kernel
theorem dL_find_47 : decode cL_find 47 = .ok (.if_icmp .ne 6, 3) := by decide +kernel
theorem dL_find_50 : decode cL_find 50 = .ok (.iload 5, 2) := by decide +kernel
theorem dL_find_52 : decode cL_find 52 = .ok (.ireturn, 1) := by decide +kernel
theorem dL_find_53 : decode cL_find 53 = .ok (.iinc 5 1, 3) := by decide +kernel
theorem dL_find_56 : decode cL_find 56 = .ok (.goto (-53), 3) := by decide +kernel
theorem dL_find_59 : decode cL_find 59 = .ok (.iconst (-1), 1) := by decide +kernel
theorem dL_find_60 : decode cL_find 60 = .ok (.ireturn, 1) := by decide +kernel
theorem dL_add_0 : decode cL_add 0 = .ok (.aload 5, 2) := by decide +kernel
theorem dL_add_2 : decode cL_add 2 = .ok (.aload 6, 2) := by decide +kernel
theorem dL_add_4 : decode cL_add 4 = .ok (.iconst 3, 1) := by decide +kernel
theorem dL_add_5 : decode cL_add 5 = .ok (.dup2, 1) := by decide +kernel
theorem dL_add_6 : decode cL_add 6 = .ok (.iaload, 1) := by decide +kernel
theorem dL_add_7 : decode cL_add 7 = .ok (.dup_x2, 1) := by decide +kernel
theorem dL_add_8 : decode cL_add 8 = .ok (.iconst 1, 1) := by decide +kernel
theorem dL_add_9 : decode cL_add 9 = .ok (.iadd, 1) := by decide +kernel
theorem dL_add_10 : decode cL_add 10 = .ok (.iastore, 1) := by decide +kernel
theorem dL_add_11 : decode cL_add 11 = .ok (.iload_n 0, 1) := by decide +kernel
theorem dL_add_12 : decode cL_add 12 = .ok (.bipush 16, 2) := by decide +kernel
theorem dL_add_14 : decode cL_add 14 = .ok (.ishl, 1) := by decide +kernel
theorem dL_add_15 : decode cL_add 15 = .ok (.iload_n 1, 1) := by decide +kernel
theorem dL_add_16 : decode cL_add 16 = .ok (.bipush 14, 2) := by decide +kernel
theorem dL_add_18 : decode cL_add 18 = .ok (.ishl, 1) := by decide +kernel
theorem dL_add_19 : decode cL_add 19 = .ok (.ior, 1) := by decide +kernel
theorem dL_add_20 : decode cL_add 20 = .ok (.iload_n 2, 1) := by decide +kernel
theorem dL_add_21 : decode cL_add 21 = .ok (.bipush 11, 2) := by decide +kernel
theorem dL_add_23 : decode cL_add 23 = .ok (.ishl, 1) := by decide +kernel
theorem dL_add_24 : decode cL_add 24 = .ok (.ior, 1) := by decide +kernel
theorem dL_add_25 : decode cL_add 25 = .ok (.iload_n 3, 1) := by decide +kernel
theorem dL_add_26 : decode cL_add 26 = .ok (.iconst 5, 1) := by decide +kernel
theorem dL_add_27 : decode cL_add 27 = .ok (.ishl, 1) := by decide +kernel
theorem dL_add_28 : decode cL_add 28 = .ok (.ior, 1) := by decide +kernel
theorem dL_add_29 : decode cL_add 29 = .ok (.iload 4, 2) := by decide +kernel
theorem dL_add_31 : decode cL_add 31 = .ok (.ior, 1) := by decide +kernel
theorem dL_add_32 : decode cL_add 32 = .ok (.iastore, 1) := by decide +kernel
theorem dL_add_33 : decode cL_add 33 = .ok (.return_, 1) := by decide +kernel
theorem dL_drop_0 : decode cL_drop 0 = .ok (.iload_n 0, 1) := by decide +kernel
theorem dL_drop_1 : decode cL_drop 1 = .ok (.ifCond .lt 16, 3) := by decide +kernel
theorem dL_drop_4 : decode cL_drop 4 = .ok (.aload_n 1, 1) := by decide +kernel
theorem dL_drop_5 : decode cL_drop 5 = .ok (.iload_n 0, 1) := by decide +kernel
theorem dL_drop_6 : decode cL_drop 6 = .ok (.aload_n 1, 1) := by decide +kernel
theorem dL_drop_7 : decode cL_drop 7 = .ok (.aload_n 2, 1) := by decide +kernel
theorem dL_drop_8 : decode cL_drop 8 = .ok (.iconst 3, 1) := by decide +kernel
theorem dL_drop_9 : decode cL_drop 9 = .ok (.dup2, 1) := by decide +kernel
theorem dL_drop_10 : decode cL_drop 10 = .ok (.iaload, 1) := by decide +kernel
theorem dL_drop_11 : decode cL_drop 11 = .ok (.iconst 1, 1) := by decide +kernel
theorem dL_drop_12 : decode cL_drop 12 = .ok (.isub, 1) := by decide +kernel
theorem dL_drop_13 : decode cL_drop 13 = .ok (.dup_x2, 1) := by decide +kernel
theorem dL_drop_14 : decode cL_drop 14 = .ok (.iastore, 1) := by decide +kernel
theorem dL_drop_15 : decode cL_drop 15 = .ok (.iaload, 1) := by decide +kernel
theorem dL_drop_16 : decode cL_drop 16 = .ok (.iastore, 1) := by decide +kernel
theorem dL_drop_17 : decode cL_drop 17 = .ok (.return_, 1) := by decide +kernel
theorem dL_room_0 : decode cL_room 0 = .ok (.iconst 0, 1) := by decide +kernel
theorem dL_room_1 : decode cL_room 1 = .ok (.istore_n 3, 1) := by decide +kernel
theorem dL_room_2 : decode cL_room 2 = .ok (.iload_n 3, 1) := by decide +kernel
theorem dL_room_3 : decode cL_room 3 = .ok (.bipush 10, 2) := by decide +kernel
theorem dL_room_5 : decode cL_room 5 = .ok (.if_icmp .ge 54, 3) := by decide +kernel
theorem dL_room_8 : decode cL_room 8 = .ok (.iload_n 3, 1) := by decide +kernel
theorem dL_room_9 : decode cL_room 9 = .ok (.aload_n 1, 1) := by decide +kernel
theorem dL_room_10 : decode cL_room 10 = .ok (.iload_n 2, 1) := by decide +kernel
theorem dL_room_11 : decode cL_room 11 = .ok (.invokestatic 16, 3) := by decide +kernel
theorem dL_room_14 : decode cL_room 14 = .ok (.iload_n 0, 1) := by decide +kernel
theorem dL_room_15 : decode cL_room 15 = .ok (.if_icmp .ge 6, 3) := by decide +kernel
theorem dL_room_18 : decode cL_room 18 = .ok (.goto 35, 3) := by decide +kernel
theorem dL_room_21 : decode cL_room 21 = .ok (.iconst 0, 1) := by decide +kernel
theorem dL_room_22 : decode cL_room 22 = .ok (.istore 4, 2) := by decide +kernel
theorem dL_room_24 : decode cL_room 24 = .ok (.bipush 40, 2) := by decide +kernel
theorem dL_room_26 : decode cL_room 26 = .ok (.iload_n 3, 1) := by decide +kernel
theorem dL_room_27 : decode cL_room 27 = .ok (.imul, 1) := by decide +kernel
theorem dL_room_28 : decode cL_room 28 = .ok (.iload 4, 2) := by decide +kernel
theorem dL_room_30 : decode cL_room 30 = .ok (.iadd, 1) := by decide +kernel
theorem dL_room_31 : decode cL_room 31 = .ok (.aload_n 1, 1) := by decide +kernel
theorem dL_room_32 : decode cL_room 32 = .ok (.iload_n 2, 1) := by decide +kernel
theorem dL_room_33 : decode cL_room 33 = .ok (.invokestatic 20, 3) := by decide +kernel
theorem dL_room_36 : decode cL_room 36 = .ok (.ifCond .lt 9, 3) := by decide +kernel
theorem dL_room_39 : decode cL_room 39 = .ok (.iinc 4 1, 3) := by decide +kernel
theorem dL_room_42 : decode cL_room 42 = .ok (.goto (-18), 3) := by decide +kernel
theorem dL_room_45 : decode cL_room 45 = .ok (.bipush 40, 2) := by decide +kernel
theorem dL_room_47 : decode cL_room 47 = .ok (.iload_n 3, 1) := by decide +kernel
theorem dL_room_48 : decode cL_room 48 = .ok (.imul, 1) := by decide +kernel
theorem dL_room_49 : decode cL_room 49 = .ok (.iload 4, 2) := by decide +kernel
theorem dL_room_51 : decode cL_room 51 = .ok (.iadd, 1) := by decide +kernel
theorem dL_room_52 : decode cL_room 52 = .ok (.ireturn, 1) := by decide +kernel
theorem dL_room_53 : decode cL_room 53 = .ok (.iinc 3 1, 3) := by decide +kernel
theorem dL_room_56 : decode cL_room 56 = .ok (.goto (-54), 3) := by decide +kernel
theorem dL_room_59 : decode cL_room 59 = .ok (.iconst (-1), 1) := by decide +kernel
theorem dL_room_60 : decode cL_room 60 = .ok (.ireturn, 1) := by decide +kernel
theorem dL_write_0 : decode cL_write 0 = .ok (.iload_n 1, 1) := by decide +kernel
theorem dL_write_1 : decode cL_write 1 = .ok (.aload_n 3, 1) := by decide +kernel
theorem dL_write_2 : decode cL_write 2 = .ok (.iconst 0, 1) := by decide +kernel
theorem dL_write_3 : decode cL_write 3 = .ok (.iaload, 1) := by decide +kernel
theorem dL_write_4 : decode cL_write 4 = .ok (.if_icmp .ge 7, 3) := by decide +kernel
theorem dL_write_7 : decode cL_write 7 = .ok (.iload_n 1, 1) := by decide +kernel
theorem dL_write_8 : decode cL_write 8 = .ok (.goto 6, 3) := by decide +kernel
theorem dL_write_11 : decode cL_write 11 = .ok (.aload_n 3, 1) := by decide +kernel
theorem dL_write_12 : decode cL_write 12 = .ok (.iconst 0, 1) := by decide +kernel
theorem dL_write_13 : decode cL_write 13 = .ok (.iaload, 1) := by decide +kernel
theorem dL_write_14 : decode cL_write 14 = .ok (.istore 6, 2) := by decide +kernel
theorem dL_write_16 : decode cL_write 16 = .ok (.iconst 4, 1) := by decide +kernel
theorem dL_write_17 : decode cL_write 17 = .ok (.iload_n 0, 1) := by decide +kernel
theorem dL_write_18 : decode cL_write 18 = .ok (.imul, 1) := by decide +kernel
theorem dL_write_19 : decode cL_write 19 = .ok (.istore 7, 2) := by decide +kernel
theorem dL_write_21 : decode cL_write 21 = .ok (.iload_n 2, 1) := by decide +kernel
theorem dL_write_22 : decode cL_write 22 = .ok (.ifCond .eq 29, 3) := by decide +kernel
theorem dL_write_25 : decode cL_write 25 = .ok (.iconst 2, 1) := by decide +kernel
theorem dL_write_26 : decode cL_write 26 = .ok (.iload 6, 2) := by decide +kernel
theorem dL_write_28 : decode cL_write 28 = .ok (.iadd, 1) := by decide +kernel
theorem dL_write_29 : decode cL_write 29 = .ok (.aload 5, 2) := by decide +kernel
theorem dL_write_31 : decode cL_write 31 = .ok (.aload_n 3, 1) := by decide +kernel
theorem dL_write_32 : decode cL_write 32 = .ok (.iconst 3, 1) := by decide +kernel
theorem dL_write_33 : decode cL_write 33 = .ok (.iaload, 1) := by decide +kernel
theorem dL_write_34 : decode cL_write 34 = .ok (.invokestatic 23, 3) := by decide +kernel
theorem dL_write_37 : decode cL_write 37 = .ok (.istore 8, 2) := by decide +kernel
theorem dL_write_39 : decode cL_write 39 = .ok (.aload 4, 2) := by decide +kernel
theorem dL_write_41 : decode cL_write 41 = .ok (.iload 7, 2) := by decide +kernel
theorem dL_write_43 : decode cL_write 43 = .ok (.iconst 2, 1) := by decide +kernel
theorem dL_write_44 : decode cL_write 44 = .ok (.iadd, 1) := by decide +kernel
theorem dL_write_45 : decode cL_write 45 = .ok (.iload 8, 2) := by decide +kernel
theorem dL_write_47 : decode cL_write 47 = .ok (.iastore, 1) := by decide +kernel
theorem dL_write_48 : decode cL_write 48 = .ok (.goto 210, 3) := by decide +kernel
theorem dL_write_51 : decode cL_write 51 = .ok (.iconst 0, 1) := by decide +kernel
theorem dL_write_52 : decode cL_write 52 = .ok (.istore 9, 2) := by decide +kernel
theorem dL_write_54 : decode cL_write 54 = .ok (.iload 9, 2) := by decide +kernel
theorem dL_write_56 : decode cL_write 56 = .ok (.bipush 41, 2) := by decide +kernel
theorem dL_write_58 : decode cL_write 58 = .ok (.if_icmp .ge 27, 3) := by decide +kernel
theorem dL_write_61 : decode cL_write 61 = .ok (.iconst 2, 1) := by decide +kernel
theorem dL_write_62 : decode cL_write 62 = .ok (.iload_n 0, 1) := by decide +kernel
theorem dL_write_63 : decode cL_write 63 = .ok (.iload 9, 2) := by decide +kernel
theorem dL_write_65 : decode cL_write 65 = .ok (.aload 5, 2) := by decide +kernel
theorem dL_write_67 : decode cL_write 67 = .ok (.aload_n 3, 1) := by decide +kernel
theorem dL_write_68 : decode cL_write 68 = .ok (.iconst 3, 1) := by decide +kernel
theorem dL_write_69 : decode cL_write 69 = .ok (.iaload, 1) := by decide +kernel
theorem dL_write_70 : decode cL_write 70 = .ok (.invokestatic 26, 3) := by decide +kernel
theorem dL_write_73 : decode cL_write 73 = .ok (.aload 5, 2) := by decide +kernel
theorem dL_write_75 : decode cL_write 75 = .ok (.aload_n 3, 1) := by decide +kernel
theorem dL_write_76 : decode cL_write 76 = .ok (.invokestatic 30, 3) := by decide +kernel
theorem dL_write_79 : decode cL_write 79 = .ok (.iinc 9 1, 3) := by decide +kernel
theorem dL_write_82 : decode cL_write 82 = .ok (.goto (-28), 3) := by decide +kernel
theorem dL_write_85 : decode cL_write 85 = .ok (.iconst 1, 1) := by decide +kernel
theorem dL_write_86 : decode cL_write 86 = .ok (.iload_n 0, 1) := by decide +kernel
theorem dL_write_87 : decode cL_write 87 = .ok (.iconst 0, 1) := by decide +kernel
theorem dL_write_88 : decode cL_write 88 = .ok (.aload 5, 2) := by decide +kernel
theorem dL_write_90 : decode cL_write 90 = .ok (.aload_n 3, 1) := by decide +kernel
theorem dL_write_91 : decode cL_write 91 = .ok (.iconst 3, 1) := by decide +kernel
theorem dL_write_92 : decode cL_write 92 = .ok (.iaload, 1) := by decide +kernel
theorem dL_write_93 : decode cL_write 93 = .ok (.invokestatic 26, 3) := by decide +kernel
theorem dL_write_96 : decode cL_write 96 = .ok (.aload 5, 2) := by decide +kernel
theorem dL_write_98 : decode cL_write 98 = .ok (.aload_n 3, 1) := by decide +kernel
theorem dL_write_99 : decode cL_write 99 = .ok (.invokestatic 30, 3) := by decide +kernel
theorem dL_write_102 : decode cL_write 102 = .ok (.aload 4, 2) := by decide +kernel
theorem dL_write_104 : decode cL_write 104 = .ok (.iload 7, 2) := by decide +kernel
theorem dL_write_106 : decode cL_write 106 = .ok (.iconst 3, 1) := by decide +kernel
theorem dL_write_107 : decode cL_write 107 = .ok (.iadd, 1) := by decide +kernel
theorem dL_write_108 : decode cL_write 108 = .ok (.iaload, 1) := by decide +kernel
theorem dL_write_109 : decode cL_write 109 = .ok (.bipush 40, 2) := by decide +kernel
theorem dL_write_111 : decode cL_write 111 = .ok (.idiv, 1) := by decide +kernel
theorem dL_write_112 : decode cL_write 112 = .ok (.aload 5, 2) := by decide +kernel
theorem dL_write_114 : decode cL_write 114 = .ok (.aload_n 3, 1) := by decide +kernel
theorem dL_write_115 : decode cL_write 115 = .ok (.iconst 3, 1) := by decide +kernel
theorem dL_write_116 : decode cL_write 116 = .ok (.iaload, 1) := by decide +kernel
theorem dL_write_117 : decode cL_write 117 = .ok (.invokestatic 16, 3) := by decide +kernel
theorem dL_write_120 : decode cL_write 120 = .ok (.iconst 2, 1) := by decide +kernel
theorem dL_write_121 : decode cL_write 121 = .ok (.iload 6, 2) := by decide +kernel
theorem dL_write_123 : decode cL_write 123 = .ok (.iadd, 1) := by decide +kernel
theorem dL_write_124 : decode cL_write 124 = .ok (.if_icmp .lt 15, 3) := by decide +kernel
theorem dL_write_127 : decode cL_write 127 = .ok (.aload 4, 2) := by decide +kernel
theorem dL_write_129 : decode cL_write 129 = .ok (.iload 7, 2) := by decide +kernel
theorem dL_write_131 : decode cL_write 131 = .ok (.iconst 3, 1) := by decide +kernel
theorem dL_write_132 : decode cL_write 132 = .ok (.iadd, 1) := by decide +kernel
theorem dL_write_133 : decode cL_write 133 = .ok (.iaload, 1) := by decide +kernel
theorem dL_write_134 : decode cL_write 134 = .ok (.istore 8, 2) := by decide +kernel
theorem dL_write_136 : decode cL_write 136 = .ok (.goto 122, 3) := by decide +kernel
theorem dL_write_139 : decode cL_write 139 = .ok (.aload 4, 2) := by decide +kernel
theorem dL_write_141 : decode cL_write 141 = .ok (.iload 7, 2) := by decide +kernel
theorem dL_write_143 : decode cL_write 143 = .ok (.iconst 3, 1) := by decide +kernel
theorem dL_write_144 : decode cL_write 144 = .ok (.iadd, 1) := by decide +kernel
theorem dL_write_145 : decode cL_write 145 = .ok (.iaload, 1) := by decide +kernel
theorem dL_write_146 : decode cL_write 146 = .ok (.aload 4, 2) := by decide +kernel
theorem dL_write_148 : decode cL_write 148 = .ok (.iload 7, 2) := by decide +kernel
theorem dL_write_150 : decode cL_write 150 = .ok (.iconst 2, 1) := by decide +kernel
theorem dL_write_151 : decode cL_write 151 = .ok (.iadd, 1) := by decide +kernel
theorem dL_write_152 : decode cL_write 152 = .ok (.iaload, 1) := by decide +kernel
theorem dL_write_153 : decode cL_write 153 = .ok (.if_icmp .ne 37, 3) := by decide +kernel
theorem dL_write_156 : decode cL_write 156 = .ok (.aload 4, 2) := by decide +kernel
theorem dL_write_158 : decode cL_write 158 = .ok (.iload 7, 2) := by decide +kernel
theorem dL_write_160 : decode cL_write 160 = .ok (.iconst 2, 1) := by decide +kernel
theorem dL_write_161 : decode cL_write 161 = .ok (.iadd, 1) := by decide +kernel
theorem dL_write_162 : decode cL_write 162 = .ok (.iaload, 1) := by decide +kernel
theorem dL_write_163 : decode cL_write 163 = .ok (.iconst 3, 1) := by decide +kernel
theorem dL_write_164 : decode cL_write 164 = .ok (.iload_n 0, 1) := by decide +kernel
theorem dL_write_165 : decode cL_write 165 = .ok (.iconst 0, 1) := by decide +kernel
theorem dL_write_166 : decode cL_write 166 = .ok (.iconst 0, 1) := by decide +kernel
theorem dL_write_167 : decode cL_write 167 = .ok (.aload 5, 2) := by decide +kernel
theorem dL_write_169 : decode cL_write 169 = .ok (.aload_n 3, 1) := by decide +kernel
theorem dL_write_170 : decode cL_write 170 = .ok (.invokestatic 34, 3) := by decide +kernel
theorem dL_write_173 : decode cL_write 173 = .ok (.iconst 2, 1) := by decide +kernel
theorem dL_write_174 : decode cL_write 174 = .ok (.iload 6, 2) := by decide +kernel
theorem dL_write_176 : decode cL_write 176 = .ok (.iadd, 1) := by decide +kernel
theorem dL_write_177 : decode cL_write 177 = .ok (.aload 5, 2) := by decide +kernel
theorem dL_write_179 : decode cL_write 179 = .ok (.aload_n 3, 1) := by decide +kernel
theorem dL_write_180 : decode cL_write 180 = .ok (.iconst 3, 1) := by decide +kernel
theorem dL_write_181 : decode cL_write 181 = .ok (.iaload, 1) := by decide +kernel
theorem dL_write_182 : decode cL_write 182 = .ok (.invokestatic 23, 3) := by decide +kernel
theorem dL_write_185 : decode cL_write 185 = .ok (.istore 8, 2) := by decide +kernel
theorem dL_write_187 : decode cL_write 187 = .ok (.goto 71, 3) := by decide +kernel
theorem dL_write_190 : decode cL_write 190 = .ok (.aload 4, 2) := by decide +kernel
theorem dL_write_192 : decode cL_write 192 = .ok (.iload 7, 2) := by decide +kernel
theorem dL_write_194 : decode cL_write 194 = .ok (.iconst 2, 1) := by decide +kernel
theorem dL_write_195 : decode cL_write 195 = .ok (.iadd, 1) := by decide +kernel
theorem dL_write_196 : decode cL_write 196 = .ok (.iaload, 1) := by decide +kernel
theorem dL_write_197 : decode cL_write 197 = .ok (.bipush 40, 2) := by decide +kernel
theorem dL_write_199 : decode cL_write 199 = .ok (.idiv, 1) := by decide +kernel
theorem dL_write_200 : decode cL_write 200 = .ok (.aload 5, 2) := by decide +kernel
theorem dL_write_202 : decode cL_write 202 = .ok (.aload_n 3, 1) := by decide +kernel
theorem dL_write_203 : decode cL_write 203 = .ok (.iconst 3, 1) := by decide +kernel
theorem dL_write_204 : decode cL_write 204 = .ok (.iaload, 1) := by decide +kernel
theorem dL_write_205 : decode cL_write 205 = .ok (.invokestatic 16, 3) := by decide +kernel
theorem dL_write_208 : decode cL_write 208 = .ok (.iconst 1, 1) := by decide +kernel
theorem dL_write_209 : decode cL_write 209 = .ok (.iload 6, 2) := by decide +kernel
theorem dL_write_211 : decode cL_write 211 = .ok (.iadd, 1) := by decide +kernel
theorem dL_write_212 : decode cL_write 212 = .ok (.if_icmp .lt 32, 3) := by decide +kernel
theorem dL_write_215 : decode cL_write 215 = .ok (.iconst 3, 1) := by decide +kernel
theorem dL_write_216 : decode cL_write 216 = .ok (.iload_n 0, 1) := by decide +kernel
theorem dL_write_217 : decode cL_write 217 = .ok (.iconst 0, 1) := by decide +kernel
theorem dL_write_218 : decode cL_write 218 = .ok (.aload 5, 2) := by decide +kernel
theorem dL_write_220 : decode cL_write 220 = .ok (.aload_n 3, 1) := by decide +kernel
theorem dL_write_221 : decode cL_write 221 = .ok (.iconst 3, 1) := by decide +kernel
theorem dL_write_222 : decode cL_write 222 = .ok (.iaload, 1) := by decide +kernel
theorem dL_write_223 : decode cL_write 223 = .ok (.invokestatic 26, 3) := by decide +kernel
theorem dL_write_226 : decode cL_write 226 = .ok (.aload 5, 2) := by decide +kernel
theorem dL_write_228 : decode cL_write 228 = .ok (.aload_n 3, 1) := by decide +kernel
theorem dL_write_229 : decode cL_write 229 = .ok (.invokestatic 30, 3) := by decide +kernel
theorem dL_write_232 : decode cL_write 232 = .ok (.aload 4, 2) := by decide +kernel
theorem dL_write_234 : decode cL_write 234 = .ok (.iload 7, 2) := by decide +kernel
theorem dL_write_236 : decode cL_write 236 = .ok (.iconst 2, 1) := by decide +kernel
theorem dL_write_237 : decode cL_write 237 = .ok (.iadd, 1) := by decide +kernel
theorem dL_write_238 : decode cL_write 238 = .ok (.iaload, 1) := by decide +kernel
theorem dL_write_239 : decode cL_write 239 = .ok (.istore 8, 2) := by decide +kernel
theorem dL_write_241 : decode cL_write 241 = .ok (.goto 17, 3) := by decide +kernel
theorem dL_write_244 : decode cL_write 244 = .ok (.iconst 2, 1) := by decide +kernel
theorem dL_write_245 : decode cL_write 245 = .ok (.iload 6, 2) := by decide +kernel
theorem dL_write_247 : decode cL_write 247 = .ok (.iadd, 1) := by decide +kernel
theorem dL_write_248 : decode cL_write 248 = .ok (.aload 5, 2) := by decide +kernel
theorem dL_write_250 : decode cL_write 250 = .ok (.aload_n 3, 1) := by decide +kernel
theorem dL_write_251 : decode cL_write 251 = .ok (.iconst 3, 1) := by decide +kernel
theorem dL_write_252 : decode cL_write 252 = .ok (.iaload, 1) := by decide +kernel
theorem dL_write_253 : decode cL_write 253 = .ok (.invokestatic 23, 3) := by decide +kernel
theorem dL_write_256 : decode cL_write 256 = .ok (.istore 8, 2) := by decide +kernel
theorem dL_write_258 : decode cL_write 258 = .ok (.iload 8, 2) := by decide +kernel
theorem dL_write_260 : decode cL_write 260 = .ok (.ifCond .ge 5, 3) := by decide +kernel
theorem dL_write_263 : decode cL_write 263 = .ok (.iconst 0, 1) := by decide +kernel
theorem dL_write_264 : decode cL_write 264 = .ok (.ireturn, 1) := by decide +kernel
theorem dL_write_265 : decode cL_write 265 = .ok (.iload 8, 2) := by decide +kernel
theorem dL_write_267 : decode cL_write 267 = .ok (.iconst 1, 1) := by decide +kernel
theorem dL_write_268 : decode cL_write 268 = .ok (.iload_n 0, 1) := by decide +kernel
theorem dL_write_269 : decode cL_write 269 = .ok (.iconst 0, 1) := by decide +kernel
theorem dL_write_270 : decode cL_write 270 = .ok (.iload 6, 2) := by decide +kernel
theorem dL_write_272 : decode cL_write 272 = .ok (.aload 5, 2) := by decide +kernel
theorem dL_write_274 : decode cL_write 274 = .ok (.aload_n 3, 1) := by decide +kernel
theorem dL_write_275 : decode cL_write 275 = .ok (.invokestatic 34, 3) := by decide +kernel
theorem dL_write_278 : decode cL_write 278 = .ok (.aload 4, 2) := by decide +kernel
theorem dL_write_280 : decode cL_write 280 = .ok (.iload 7, 2) := by decide +kernel
theorem dL_write_282 : decode cL_write 282 = .ok (.iconst 1, 1) := by decide +kernel
theorem dL_write_283 : decode cL_write 283 = .ok (.iadd, 1) := by decide +kernel
theorem dL_write_284 : decode cL_write 284 = .ok (.iload_n 1, 1) := by decide +kernel
theorem dL_write_285 : decode cL_write 285 = .ok (.iastore, 1) := by decide +kernel
theorem dL_write_286 : decode cL_write 286 = .ok (.aload 4, 2) := by decide +kernel
theorem dL_write_288 : decode cL_write 288 = .ok (.iload 7, 2) := by decide +kernel
theorem dL_write_290 : decode cL_write 290 = .ok (.iconst 3, 1) := by decide +kernel
theorem dL_write_291 : decode cL_write 291 = .ok (.iadd, 1) := by decide +kernel
theorem dL_write_292 : decode cL_write 292 = .ok (.iload 8, 2) := by decide +kernel
theorem dL_write_294 : decode cL_write 294 = .ok (.iastore, 1) := by decide +kernel
theorem dL_write_295 : decode cL_write 295 = .ok (.iconst 0, 1) := by decide +kernel
theorem dL_write_296 : decode cL_write 296 = .ok (.istore 9, 2) := by decide +kernel
theorem dL_write_298 : decode cL_write 298 = .ok (.iload_n 1, 1) := by decide +kernel
theorem dL_write_299 : decode cL_write 299 = .ok (.iload 6, 2) := by decide +kernel
theorem dL_write_301 : decode cL_write 301 = .ok (.isub, 1) := by decide +kernel
theorem dL_write_302 : decode cL_write 302 = .ok (.istore 10, 2) := by decide +kernel
theorem dL_write_304 : decode cL_write 304 = .ok (.iload 10, 2) := by decide +kernel
theorem dL_write_306 : decode cL_write 306 = .ok (.ifCond .le 70, 3) := by decide +kernel
theorem dL_write_309 : decode cL_write 309 = .ok (.iload 10, 2) := by decide +kernel
theorem dL_write_311 : decode cL_write 311 = .ok (.aload_n 3, 1) := by decide +kernel
theorem dL_write_312 : decode cL_write 312 = .ok (.iconst 1, 1) := by decide +kernel
theorem dL_write_313 : decode cL_write 313 = .ok (.iaload, 1) := by decide +kernel
theorem dL_write_314 : decode cL_write 314 = .ok (.if_icmp .ge 8, 3) := by decide +kernel
theorem dL_write_317 : decode cL_write 317 = .ok (.iload 10, 2) := by decide +kernel
theorem dL_write_319 : decode cL_write 319 = .ok (.goto 6, 3) := by decide +kernel
theorem dL_write_322 : decode cL_write 322 = .ok (.aload_n 3, 1) := by decide +kernel
theorem dL_write_323 : decode cL_write 323 = .ok (.iconst 1, 1) := by decide +kernel
theorem dL_write_324 : decode cL_write 324 = .ok (.iaload, 1) := by decide +kernel
theorem dL_write_325 : decode cL_write 325 = .ok (.istore 11, 2) := by decide +kernel
theorem dL_write_327 : decode cL_write 327 = .ok (.iconst 1, 1) := by decide +kernel
theorem dL_write_328 : decode cL_write 328 = .ok (.iload 11, 2) := by decide +kernel
theorem dL_write_330 : decode cL_write 330 = .ok (.iadd, 1) := by decide +kernel
theorem dL_write_331 : decode cL_write 331 = .ok (.aload 5, 2) := by decide +kernel
theorem dL_write_333 : decode cL_write 333 = .ok (.aload_n 3, 1) := by decide +kernel
theorem dL_write_334 : decode cL_write 334 = .ok (.iconst 3, 1) := by decide +kernel
theorem dL_write_335 : decode cL_write 335 = .ok (.iaload, 1) := by decide +kernel
theorem dL_write_336 : decode cL_write 336 = .ok (.invokestatic 23, 3) := by decide +kernel
theorem dL_write_339 : decode cL_write 339 = .ok (.istore 12, 2) := by decide +kernel
theorem dL_write_341 : decode cL_write 341 = .ok (.iload 12, 2) := by decide +kernel
theorem dL_write_343 : decode cL_write 343 = .ok (.ifCond .ge 5, 3) := by decide +kernel
theorem dL_write_346 : decode cL_write 346 = .ok (.iconst 0, 1) := by decide +kernel
theorem dL_write_347 : decode cL_write 347 = .ok (.ireturn, 1) := by decide +kernel
theorem dL_write_348 : decode cL_write 348 = .ok (.iload 12, 2) := by decide +kernel
theorem dL_write_350 : decode cL_write 350 = .ok (.iconst 2, 1) := by decide +kernel
theorem dL_write_351 : decode cL_write 351 = .ok (.iload_n 0, 1) := by decide +kernel
theorem dL_write_352 : decode cL_write 352 = .ok (.iload 9, 2) := by decide +kernel
theorem dL_write_354 : decode cL_write 354 = .ok (.iinc 9 1, 3) := by decide +kernel
theorem dL_write_357 : decode cL_write 357 = .ok (.iload 11, 2) := by decide +kernel
theorem dL_write_359 : decode cL_write 359 = .ok (.aload 5, 2) := by decide +kernel
theorem dL_write_361 : decode cL_write 361 = .ok (.aload_n 3, 1) := by decide +kernel
theorem dL_write_362 : decode cL_write 362 = .ok (.invokestatic 34, 3) := by decide +kernel
theorem dL_write_365 : decode cL_write 365 = .ok (.iload 10, 2) := by decide +kernel
theorem dL_write_367 : decode cL_write 367 = .ok (.aload_n 3, 1) := by decide +kernel
theorem dL_write_368 : decode cL_write 368 = .ok (.iconst 1, 1) := by decide +kernel
theorem dL_write_369 : decode cL_write 369 = .ok (.iaload, 1) := by decide +kernel
theorem dL_write_370 : decode cL_write 370 = .ok (.isub, 1) := by decide +kernel
theorem dL_write_371 : decode cL_write 371 = .ok (.istore 10, 2) := by decide +kernel
theorem dL_write_373 : decode cL_write 373 = .ok (.goto (-69), 3) := by decide +kernel
theorem dL_write_376 : decode cL_write 376 = .ok (.iconst 1, 1) := by decide +kernel
theorem dL_write_377 : decode cL_write 377 = .ok (.ireturn, 1) := by decide +kernel
theorem dL_rowOf_0 : decode cL_rowOf 0 = .ok (.iconst 0, 1) := by decide +kernel
theorem dL_rowOf_1 : decode cL_rowOf 1 = .ok (.istore_n 2, 1) := by decide +kernel
theorem dL_rowOf_2 : decode cL_rowOf 2 = .ok (.iload_n 2, 1) := by decide +kernel
theorem dL_rowOf_3 : decode cL_rowOf 3 = .ok (.bipush 6, 2) := by decide +kernel
theorem dL_rowOf_5 : decode cL_rowOf 5 = .ok (.if_icmp .ge 30, 3) := by decide +kernel
theorem dL_rowOf_8 : decode cL_rowOf 8 = .ok (.aload_n 1, 1) := by decide +kernel
theorem dL_rowOf_9 : decode cL_rowOf 9 = .ok (.iconst 4, 1) := by decide +kernel
theorem dL_rowOf_10 : decode cL_rowOf 10 = .ok (.iload_n 2, 1) := by decide +kernel
theorem dL_rowOf_11 : decode cL_rowOf 11 = .ok (.imul, 1) := by decide +kernel
theorem dL_rowOf_12 : decode cL_rowOf 12 = .ok (.iconst 1, 1) := by decide +kernel
theorem dL_rowOf_13 : decode cL_rowOf 13 = .ok (.iadd, 1) := by decide +kernel
theorem dL_rowOf_14 : decode cL_rowOf 14 = .ok (.iaload, 1) := by decide +kernel
theorem dL_rowOf_15 : decode cL_rowOf 15 = .ok (.ifCond .lt 14, 3) := by decide +kernel
theorem dL_rowOf_18 : decode cL_rowOf 18 = .ok (.aload_n 1, 1) := by decide +kernel
theorem dL_rowOf_19 : decode cL_rowOf 19 = .ok (.iconst 4, 1) := by decide +kernel
theorem dL_rowOf_20 : decode cL_rowOf 20 = .ok (.iload_n 2, 1) := by decide +kernel
theorem dL_rowOf_21 : decode cL_rowOf 21 = .ok (.imul, 1) := by decide +kernel
theorem dL_rowOf_22 : decode cL_rowOf 22 = .ok (.iaload, 1) := by decide +kernel
theorem dL_rowOf_23 : decode cL_rowOf 23 = .ok (.iload_n 0, 1) := by decide +kernel
theorem dL_rowOf_24 : decode cL_rowOf 24 = .ok (.if_icmp .ne 5, 3) := by decide +kernel
theorem dL_rowOf_27 : decode cL_rowOf 27 = .ok (.iload_n 2, 1) := by decide +kernel
theorem dL_rowOf_28 : decode cL_rowOf 28 = .ok (.ireturn, 1) := by decide +kernel
theorem dL_rowOf_29 : decode cL_rowOf 29 = .ok (.iinc 2 1, 3) := by decide +kernel
theorem dL_rowOf_32 : decode cL_rowOf 32 = .ok (.goto (-30), 3) := by decide +kernel
theorem dL_rowOf_35 : decode cL_rowOf 35 = .ok (.iconst (-1), 1) := by decide +kernel
theorem dL_rowOf_36 : decode cL_rowOf 36 = .ok (.ireturn, 1) := by decide +kernel
theorem dL_pack_0 : decode cL_pack 0 = .ok (.aload_n 0, 1) := by decide +kernel
theorem dL_pack_1 : decode cL_pack 1 = .ok (.iconst 3, 1) := by decide +kernel
theorem dL_pack_2 : decode cL_pack 2 = .ok (.iconst 0, 1) := by decide +kernel
theorem dL_pack_3 : decode cL_pack 3 = .ok (.iastore, 1) := by decide +kernel
theorem dL_pack_4 : decode cL_pack 4 = .ok (.iconst 0, 1) := by decide +kernel
theorem dL_pack_5 : decode cL_pack 5 = .ok (.istore_n 3, 1) := by decide +kernel
theorem dL_pack_6 : decode cL_pack 6 = .ok (.iload_n 3, 1) := by decide +kernel
theorem dL_pack_7 : decode cL_pack 7 = .ok (.bipush 100, 2) := by decide +kernel
theorem dL_pack_9 : decode cL_pack 9 = .ok (.if_icmp .ge 43, 3) := by decide +kernel
theorem dL_pack_12 : decode cL_pack 12 = .ok (.iload_n 3, 1) := by decide +kernel
theorem dL_pack_13 : decode cL_pack 13 = .ok (.aload_n 1, 1) := by decide +kernel
theorem dL_pack_14 : decode cL_pack 14 = .ok (.invokestatic 38, 3) := by decide +kernel
theorem dL_pack_17 : decode cL_pack 17 = .ok (.istore 4, 2) := by decide +kernel
theorem dL_pack_19 : decode cL_pack 19 = .ok (.iload 4, 2) := by decide +kernel
theorem dL_pack_21 : decode cL_pack 21 = .ok (.ifCond .lt 25, 3) := by decide +kernel
theorem dL_pack_24 : decode cL_pack 24 = .ok (.iload 4, 2) := by decide +kernel
theorem dL_pack_26 : decode cL_pack 26 = .ok (.aload_n 1, 1) := by decide +kernel
theorem dL_pack_27 : decode cL_pack 27 = .ok (.iconst 4, 1) := by decide +kernel
theorem dL_pack_28 : decode cL_pack 28 = .ok (.iload 4, 2) := by decide +kernel
theorem dL_pack_30 : decode cL_pack 30 = .ok (.imul, 1) := by decide +kernel
theorem dL_pack_31 : decode cL_pack 31 = .ok (.iconst 1, 1) := by decide +kernel
theorem dL_pack_32 : decode cL_pack 32 = .ok (.iadd, 1) := by decide +kernel
theorem dL_pack_33 : decode cL_pack 33 = .ok (.iaload, 1) := by decide +kernel
theorem dL_pack_34 : decode cL_pack 34 = .ok (.iconst 1, 1) := by decide +kernel
theorem dL_pack_35 : decode cL_pack 35 = .ok (.aload_n 0, 1) := by decide +kernel
theorem dL_pack_36 : decode cL_pack 36 = .ok (.aload_n 1, 1) := by decide +kernel
theorem dL_pack_37 : decode cL_pack 37 = .ok (.aload_n 2, 1) := by decide +kernel
theorem dL_pack_38 : decode cL_pack 38 = .ok (.invokestatic 42, 3) := by decide +kernel
theorem dL_pack_41 : decode cL_pack 41 = .ok (.ifCond .ne 5, 3) := by decide +kernel
theorem dL_pack_44 : decode cL_pack 44 = .ok (.iconst 0, 1) := by decide +kernel
theorem dL_pack_45 : decode cL_pack 45 = .ok (.ireturn, 1) := by decide +kernel
theorem dL_pack_46 : decode cL_pack 46 = .ok (.iinc 3 1, 3) := by decide +kernel
theorem dL_pack_49 : decode cL_pack 49 = .ok (.goto (-43), 3) := by decide +kernel
theorem dL_pack_52 : decode cL_pack 52 = .ok (.iconst 1, 1) := by decide +kernel
theorem dL_pack_53 : decode cL_pack 53 = .ok (.ireturn, 1) := by decide +kernel
theorem dL_pieces_0 : decode cL_pieces 0 = .ok (.iconst 0, 1) := by decide +kernel
theorem dL_pieces_1 : decode cL_pieces 1 = .ok (.istore_n 3, 1) := by decide +kernel
theorem dL_pieces_2 : decode cL_pieces 2 = .ok (.iconst 2, 1) := by decide +kernel
theorem dL_pieces_3 : decode cL_pieces 3 = .ok (.iload_n 0, 1) := by decide +kernel
theorem dL_pieces_4 : decode cL_pieces 4 = .ok (.iload_n 3, 1) := by decide +kernel
theorem dL_pieces_5 : decode cL_pieces 5 = .ok (.aload_n 1, 1) := by decide +kernel
theorem dL_pieces_6 : decode cL_pieces 6 = .ok (.iload_n 2, 1) := by decide +kernel
theorem dL_pieces_7 : decode cL_pieces 7 = .ok (.invokestatic 26, 3) := by decide +kernel
theorem dL_pieces_10 : decode cL_pieces 10 = .ok (.ifCond .lt 9, 3) := by decide +kernel
theorem dL_pieces_13 : decode cL_pieces 13 = .ok (.iinc 3 1, 3) := by decide +kernel
theorem dL_pieces_16 : decode cL_pieces 16 = .ok (.goto (-14), 3) := by decide +kernel
theorem dL_pieces_19 : decode cL_pieces 19 = .ok (.iload_n 3, 1) := by decide +kernel
theorem dL_pieces_20 : decode cL_pieces 20 = .ok (.ireturn, 1) := by decide +kernel
theorem dL_cost_0 : decode cL_cost 0 = .ok (.aload_n 1, 1) := by decide +kernel
theorem dL_cost_1 : decode cL_cost 1 = .ok (.iconst 4, 1) := by decide +kernel
theorem dL_cost_2 : decode cL_cost 2 = .ok (.iload_n 0, 1) := by decide +kernel
theorem dL_cost_3 : decode cL_cost 3 = .ok (.imul, 1) := by decide +kernel
theorem dL_cost_4 : decode cL_cost 4 = .ok (.iconst 2, 1) := by decide +kernel
theorem dL_cost_5 : decode cL_cost 5 = .ok (.iadd, 1) := by decide +kernel
theorem dL_cost_6 : decode cL_cost 6 = .ok (.iaload, 1) := by decide +kernel
theorem dL_cost_7 : decode cL_cost 7 = .ok (.bipush 40, 2) := by decide +kernel
theorem dL_cost_9 : decode cL_cost 9 = .ok (.idiv, 1) := by decide +kernel
theorem dL_cost_10 : decode cL_cost 10 = .ok (.istore 4, 2) := by decide +kernel
theorem dL_cost_12 : decode cL_cost 12 = .ok (.iconst 1, 1) := by decide +kernel
theorem dL_cost_13 : decode cL_cost 13 = .ok (.istore 5, 2) := by decide +kernel
theorem dL_cost_15 : decode cL_cost 15 = .ok (.iconst (-1), 1) := by decide +kernel
theorem dL_cost_16 : decode cL_cost 16 = .ok (.istore 6, 2) := by decide +kernel
theorem dL_cost_18 : decode cL_cost 18 = .ok (.iload 6, 2) := by decide +kernel
theorem dL_cost_20 : decode cL_cost 20 = .ok (.iload_n 0, 1) := by decide +kernel
theorem dL_cost_21 : decode cL_cost 21 = .ok (.aload_n 2, 1) := by decide +kernel
theorem dL_cost_22 : decode cL_cost 22 = .ok (.iload_n 3, 1) := by decide +kernel
theorem dL_cost_23 : decode cL_cost 23 = .ok (.invokestatic 46, 3) := by decide +kernel
theorem dL_cost_26 : decode cL_cost 26 = .ok (.if_icmp .ge 67, 3) := by decide +kernel
theorem dL_cost_29 : decode cL_cost 29 = .ok (.iload 6, 2) := by decide +kernel
theorem dL_cost_31 : decode cL_cost 31 = .ok (.ifCond .ge 16, 3) := by decide +kernel
theorem dL_cost_34 : decode cL_cost 34 = .ok (.aload_n 1, 1) := by decide +kernel
theorem dL_cost_35 : decode cL_cost 35 = .ok (.iconst 4, 1) := by decide +kernel
theorem dL_cost_36 : decode cL_cost 36 = .ok (.iload_n 0, 1) := by decide +kernel
theorem dL_cost_37 : decode cL_cost 37 = .ok (.imul, 1) := by decide +kernel
theorem dL_cost_38 : decode cL_cost 38 = .ok (.iconst 3, 1) := by decide +kernel
theorem dL_cost_39 : decode cL_cost 39 = .ok (.iadd, 1) := by decide +kernel
theorem dL_cost_40 : decode cL_cost 40 = .ok (.iaload, 1) := by decide +kernel
theorem dL_cost_41 : decode cL_cost 41 = .ok (.bipush 40, 2) := by decide +kernel
theorem dL_cost_43 : decode cL_cost 43 = .ok (.idiv, 1) := by decide +kernel
theorem dL_cost_44 : decode cL_cost 44 = .ok (.goto 20, 3) := by decide +kernel
theorem dL_cost_47 : decode cL_cost 47 = .ok (.aload_n 2, 1) := by decide +kernel
theorem dL_cost_48 : decode cL_cost 48 = .ok (.iconst 2, 1) := by decide +kernel
theorem dL_cost_49 : decode cL_cost 49 = .ok (.iload_n 0, 1) := by decide +kernel
theorem dL_cost_50 : decode cL_cost 50 = .ok (.iload 6, 2) := by decide +kernel
theorem dL_cost_52 : decode cL_cost 52 = .ok (.aload_n 2, 1) := by decide +kernel
theorem dL_cost_53 : decode cL_cost 53 = .ok (.iload_n 3, 1) := by decide +kernel
theorem dL_cost_54 : decode cL_cost 54 = .ok (.invokestatic 26, 3) := by decide +kernel
theorem dL_cost_57 : decode cL_cost 57 = .ok (.iaload, 1) := by decide +kernel
theorem dL_cost_58 : decode cL_cost 58 = .ok (.bipush 16, 2) := by decide +kernel
theorem dL_cost_60 : decode cL_cost 60 = .ok (.ishr, 1) := by decide +kernel
theorem dL_cost_61 : decode cL_cost 61 = .ok (.bipush 40, 2) := by decide +kernel
theorem dL_cost_63 : decode cL_cost 63 = .ok (.idiv, 1) := by decide +kernel
theorem dL_cost_64 : decode cL_cost 64 = .ok (.istore 7, 2) := by decide +kernel
theorem dL_cost_66 : decode cL_cost 66 = .ok (.iload 5, 2) := by decide +kernel
theorem dL_cost_68 : decode cL_cost 68 = .ok (.iload 7, 2) := by decide +kernel
theorem dL_cost_70 : decode cL_cost 70 = .ok (.iload 4, 2) := by decide +kernel
theorem dL_cost_72 : decode cL_cost 72 = .ok (.if_icmp .eq 7, 3) := by decide +kernel
theorem dL_cost_75 : decode cL_cost 75 = .ok (.iconst 1, 1) := by decide +kernel
theorem dL_cost_76 : decode cL_cost 76 = .ok (.goto 4, 3) := by decide +kernel
theorem dL_cost_79 : decode cL_cost 79 = .ok (.iconst 0, 1) := by decide +kernel
theorem dL_cost_80 : decode cL_cost 80 = .ok (.iadd, 1) := by decide +kernel
theorem dL_cost_81 : decode cL_cost 81 = .ok (.istore 5, 2) := by decide +kernel
theorem dL_cost_83 : decode cL_cost 83 = .ok (.iload 7, 2) := by decide +kernel
theorem dL_cost_85 : decode cL_cost 85 = .ok (.istore 4, 2) := by decide +kernel
theorem dL_cost_87 : decode cL_cost 87 = .ok (.iinc 6 1, 3) := by decide +kernel
theorem dL_cost_90 : decode cL_cost 90 = .ok (.goto (-72), 3) := by decide +kernel
theorem dL_cost_93 : decode cL_cost 93 = .ok (.iload 5, 2) := by decide +kernel
theorem dL_cost_95 : decode cL_cost 95 = .ok (.ireturn, 1) := by decide +kernel
theorem dL_costs_0 : decode cL_costs 0 = .ok (.iconst 0, 1) := by decide +kernel
theorem dL_costs_1 : decode cL_costs 1 = .ok (.istore_n 3, 1) := by decide +kernel
theorem dL_costs_2 : decode cL_costs 2 = .ok (.iconst 0, 1) := by decide +kernel
theorem dL_costs_3 : decode cL_costs 3 = .ok (.istore 4, 2) := by decide +kernel
theorem dL_costs_5 : decode cL_costs 5 = .ok (.iload 4, 2) := by decide +kernel
theorem dL_costs_7 : decode cL_costs 7 = .ok (.bipush 6, 2) := by decide +kernel
theorem dL_costs_9 : decode cL_costs 9 = .ok (.if_icmp .ge 35, 3) := by decide +kernel
theorem dL_costs_12 : decode cL_costs 12 = .ok (.iload_n 3, 1) := by decide +kernel
theorem dL_costs_13 : decode cL_costs 13 = .ok (.aload_n 0, 1) := by decide +kernel
theorem dL_costs_14 : decode cL_costs 14 = .ok (.iconst 4, 1) := by decide +kernel
theorem dL_costs_15 : decode cL_costs 15 = .ok (.iload 4, 2) := by decide +kernel
theorem dL_costs_17 : decode cL_costs 17 = .ok (.imul, 1) := by decide +kernel
theorem dL_costs_18 : decode cL_costs 18 = .ok (.iconst 1, 1) := by decide +kernel
theorem dL_costs_19 : decode cL_costs 19 = .ok (.iadd, 1) := by decide +kernel
theorem dL_costs_20 : decode cL_costs 20 = .ok (.iaload, 1) := by decide +kernel
theorem dL_costs_21 : decode cL_costs 21 = .ok (.ifCond .ge 7, 3) := by decide +kernel
theorem dL_costs_24 : decode cL_costs 24 = .ok (.iconst 0, 1) := by decide +kernel
theorem dL_costs_25 : decode cL_costs 25 = .ok (.goto 11, 3) := by decide +kernel
theorem dL_costs_28 : decode cL_costs 28 = .ok (.iload 4, 2) := by decide +kernel
theorem dL_costs_30 : decode cL_costs 30 = .ok (.aload_n 0, 1) := by decide +kernel
theorem dL_costs_31 : decode cL_costs 31 = .ok (.aload_n 1, 1) := by decide +kernel
theorem dL_costs_32 : decode cL_costs 32 = .ok (.iload_n 2, 1) := by decide +kernel
theorem dL_costs_33 : decode cL_costs 33 = .ok (.invokestatic 49, 3) := by decide +kernel
theorem dL_costs_36 : decode cL_costs 36 = .ok (.iadd, 1) := by decide +kernel
theorem dL_costs_37 : decode cL_costs 37 = .ok (.istore_n 3, 1) := by decide +kernel
theorem dL_costs_38 : decode cL_costs 38 = .ok (.iinc 4 1, 3) := by decide +kernel
theorem dL_costs_41 : decode cL_costs 41 = .ok (.goto (-36), 3) := by decide +kernel
theorem dL_costs_44 : decode cL_costs 44 = .ok (.iload_n 3, 1) := by decide +kernel
theorem dL_costs_45 : decode cL_costs 45 = .ok (.ireturn, 1) := by decide +kernel
theorem dL_kinds_0 : decode cL_kinds 0 = .ok (.iconst 0, 1) := by decide +kernel
theorem dL_kinds_1 : decode cL_kinds 1 = .ok (.istore_n 3, 1) := by decide +kernel
theorem dL_kinds_2 : decode cL_kinds 2 = .ok (.iconst 0, 1) := by decide +kernel
theorem dL_kinds_3 : decode cL_kinds 3 = .ok (.istore 4, 2) := by decide +kernel
theorem dL_kinds_5 : decode cL_kinds 5 = .ok (.iload 4, 2) := by decide +kernel
theorem dL_kinds_7 : decode cL_kinds 7 = .ok (.iload_n 2, 1) := by decide +kernel
theorem dL_kinds_8 : decode cL_kinds 8 = .ok (.if_icmp .ge 30, 3) := by decide +kernel
theorem dL_kinds_11 : decode cL_kinds 11 = .ok (.iload_n 3, 1) := by decide +kernel
theorem dL_kinds_12 : decode cL_kinds 12 = .ok (.aload_n 1, 1) := by decide +kernel
theorem dL_kinds_13 : decode cL_kinds 13 = .ok (.iload 4, 2) := by decide +kernel
theorem dL_kinds_15 : decode cL_kinds 15 = .ok (.iaload, 1) := by decide +kernel
theorem dL_kinds_16 : decode cL_kinds 16 = .ok (.bipush 14, 2) := by decide +kernel
theorem dL_kinds_18 : decode cL_kinds 18 = .ok (.ishr, 1) := by decide +kernel
theorem dL_kinds_19 : decode cL_kinds 19 = .ok (.iconst 3, 1) := by decide +kernel
theorem dL_kinds_20 : decode cL_kinds 20 = .ok (.iand, 1) := by decide +kernel
theorem dL_kinds_21 : decode cL_kinds 21 = .ok (.iload_n 0, 1) := by decide +kernel
theorem dL_kinds_22 : decode cL_kinds 22 = .ok (.if_icmp .ne 7, 3) := by decide +kernel
theorem dL_kinds_25 : decode cL_kinds 25 = .ok (.iconst 1, 1) := by decide +kernel
theorem dL_kinds_26 : decode cL_kinds 26 = .ok (.goto 4, 3) := by decide +kernel
theorem dL_kinds_29 : decode cL_kinds 29 = .ok (.iconst 0, 1) := by decide +kernel
theorem dL_kinds_30 : decode cL_kinds 30 = .ok (.iadd, 1) := by decide +kernel
theorem dL_kinds_31 : decode cL_kinds 31 = .ok (.istore_n 3, 1) := by decide +kernel
theorem dL_kinds_32 : decode cL_kinds 32 = .ok (.iinc 4 1, 3) := by decide +kernel
theorem dL_kinds_35 : decode cL_kinds 35 = .ok (.goto (-30), 3) := by decide +kernel
theorem dL_kinds_38 : decode cL_kinds 38 = .ok (.iload_n 3, 1) := by decide +kernel
theorem dL_kinds_39 : decode cL_kinds 39 = .ok (.ireturn, 1) := by decide +kernel
theorem dL_letter_0 : decode cL_letter 0 = .ok (.aload_n 2, 1) := by decide +kernel
theorem dL_letter_1 : decode cL_letter 1 = .ok (.iconst 2, 1) := by decide +kernel
theorem dL_letter_2 : decode cL_letter 2 = .ok (.iload_n 0, 1) := by decide +kernel
theorem dL_letter_3 : decode cL_letter 3 = .ok (.imul, 1) := by decide +kernel
theorem dL_letter_4 : decode cL_letter 4 = .ok (.iload_n 1, 1) := by decide +kernel
theorem dL_letter_5 : decode cL_letter 5 = .ok (.bipush 12, 2) := by decide +kernel
theorem dL_letter_7 : decode cL_letter 7 = .ok (.idiv, 1) := by decide +kernel
theorem dL_letter_8 : decode cL_letter 8 = .ok (.iadd, 1) := by decide +kernel
theorem dL_letter_9 : decode cL_letter 9 = .ok (.laload, 1) := by decide +kernel
theorem dL_letter_10 : decode cL_letter 10 = .ok (.iconst 5, 1) := by decide +kernel
theorem dL_letter_11 : decode cL_letter 11 = .ok (.iload_n 1, 1) := by decide +kernel
theorem dL_letter_12 : decode cL_letter 12 = .ok (.bipush 12, 2) := by decide +kernel
theorem dL_letter_14 : decode cL_letter 14 = .ok (.irem, 1) := by decide +kernel
theorem dL_letter_15 : decode cL_letter 15 = .ok (.imul, 1) := by decide +kernel
theorem dL_letter_16 : decode cL_letter 16 = .ok (.lshr, 1) := by decide +kernel
theorem dL_letter_17 : decode cL_letter 17 = .ok (.l2i, 1) := by decide +kernel
theorem dL_letter_18 : decode cL_letter 18 = .ok (.bipush 31, 2) := by decide +kernel
theorem dL_letter_20 : decode cL_letter 20 = .ok (.iand, 1) := by decide +kernel
theorem dL_letter_21 : decode cL_letter 21 = .ok (.ireturn, 1) := by decide +kernel
theorem dL_same_0 : decode cL_same 0 = .ok (.iconst 0, 1) := by decide +kernel
theorem dL_same_1 : decode cL_same 1 = .ok (.istore 5, 2) := by decide +kernel
theorem dL_same_3 : decode cL_same 3 = .ok (.iconst 0, 1) := by decide +kernel
theorem dL_same_4 : decode cL_same 4 = .ok (.istore 6, 2) := by decide +kernel
theorem dL_same_6 : decode cL_same 6 = .ok (.iconst 0, 1) := by decide +kernel
theorem dL_same_7 : decode cL_same 7 = .ok (.istore 7, 2) := by decide +kernel
theorem dL_same_9 : decode cL_same 9 = .ok (.bipush (-6), 2) := by decide +kernel
theorem dL_same_11 : decode cL_same 11 = .ok (.istore 8, 2) := by decide +kernel
theorem dL_same_13 : decode cL_same 13 = .ok (.iconst 0, 1) := by decide +kernel
theorem dL_same_14 : decode cL_same 14 = .ok (.istore 9, 2) := by decide +kernel
theorem dL_same_16 : decode cL_same 16 = .ok (.iconst 0, 1) := by decide +kernel
theorem dL_same_17 : decode cL_same 17 = .ok (.istore 10, 2) := by decide +kernel
theorem dL_same_19 : decode cL_same 19 = .ok (.iload 10, 2) := by decide +kernel
theorem dL_same_21 : decode cL_same 21 = .ok (.bipush 10, 2) := by decide +kernel
theorem dL_same_23 : decode cL_same 23 = .ok (.if_icmp .ge 342, 3) := by decide +kernel
theorem dL_same_26 : decode cL_same 26 = .ok (.iconst 0, 1) := by decide +kernel
theorem dL_same_27 : decode cL_same 27 = .ok (.istore 11, 2) := by decide +kernel
theorem dL_same_29 : decode cL_same 29 = .ok (.iconst 0, 1) := by decide +kernel
theorem dL_same_30 : decode cL_same 30 = .ok (.istore 12, 2) := by decide +kernel
theorem dL_same_32 : decode cL_same 32 = .ok (.iconst 0, 1) := by decide +kernel
theorem dL_same_33 : decode cL_same 33 = .ok (.istore 13, 2) := by decide +kernel
theorem dL_same_35 : decode cL_same 35 = .ok (.iconst 0, 1) := by decide +kernel
theorem dL_same_36 : decode cL_same 36 = .ok (.istore 14, 2) := by decide +kernel
theorem dL_same_38 : decode cL_same 38 = .ok (.iconst 0, 1) := by decide +kernel
theorem dL_same_39 : decode cL_same 39 = .ok (.istore 15, 2) := by decide +kernel
theorem dL_same_41 : decode cL_same 41 = .ok (.iload 15, 2) := by decide +kernel
theorem dL_same_43 : decode cL_same 43 = .ok (.aload_n 1, 1) := by decide +kernel
theorem dL_same_44 : decode cL_same 44 = .ok (.iconst 3, 1) := by decide +kernel
theorem dL_same_45 : decode cL_same 45 = .ok (.iaload, 1) := by decide +kernel
theorem dL_same_46 : decode cL_same 46 = .ok (.if_icmp .ge 184, 3) := by decide +kernel
theorem dL_same_49 : decode cL_same 49 = .ok (.aload_n 3, 1) := by decide +kernel
theorem dL_same_50 : decode cL_same 50 = .ok (.iload 15, 2) := by decide +kernel
theorem dL_same_52 : decode cL_same 52 = .ok (.iaload, 1) := by decide +kernel
theorem dL_same_53 : decode cL_same 53 = .ok (.bipush 16, 2) := by decide +kernel
theorem dL_same_55 : decode cL_same 55 = .ok (.ishr, 1) := by decide +kernel
theorem dL_same_56 : decode cL_same 56 = .ok (.istore 16, 2) := by decide +kernel
theorem dL_same_58 : decode cL_same 58 = .ok (.iload 16, 2) := by decide +kernel
theorem dL_same_60 : decode cL_same 60 = .ok (.bipush 40, 2) := by decide +kernel
theorem dL_same_62 : decode cL_same 62 = .ok (.idiv, 1) := by decide +kernel
theorem dL_same_63 : decode cL_same 63 = .ok (.iload 10, 2) := by decide +kernel
theorem dL_same_65 : decode cL_same 65 = .ok (.if_icmp .eq 6, 3) := by decide +kernel
theorem dL_same_68 : decode cL_same 68 = .ok (.goto 156, 3) := by decide +kernel
theorem dL_same_71 : decode cL_same 71 = .ok (.aload_n 3, 1) := by decide +kernel
theorem dL_same_72 : decode cL_same 72 = .ok (.iload 15, 2) := by decide +kernel
theorem dL_same_74 : decode cL_same 74 = .ok (.iaload, 1) := by decide +kernel
theorem dL_same_75 : decode cL_same 75 = .ok (.bipush 14, 2) := by decide +kernel
theorem dL_same_77 : decode cL_same 77 = .ok (.ishr, 1) := by decide +kernel
theorem dL_same_78 : decode cL_same 78 = .ok (.iconst 3, 1) := by decide +kernel
theorem dL_same_79 : decode cL_same 79 = .ok (.iand, 1) := by decide +kernel
theorem dL_same_80 : decode cL_same 80 = .ok (.istore 17, 2) := by decide +kernel
theorem dL_same_82 : decode cL_same 82 = .ok (.iload 16, 2) := by decide +kernel
theorem dL_same_84 : decode cL_same 84 = .ok (.bipush 40, 2) := by decide +kernel
theorem dL_same_86 : decode cL_same 86 = .ok (.irem, 1) := by decide +kernel
theorem dL_same_87 : decode cL_same 87 = .ok (.iload 11, 2) := by decide +kernel
theorem dL_same_89 : decode cL_same 89 = .ok (.if_icmp .lt 13, 3) := by decide +kernel
theorem dL_same_92 : decode cL_same 92 = .ok (.iload 16, 2) := by decide +kernel
theorem dL_same_94 : decode cL_same 94 = .ok (.bipush 40, 2) := by decide +kernel
theorem dL_same_96 : decode cL_same 96 = .ok (.irem, 1) := by decide +kernel
theorem dL_same_97 : decode cL_same 97 = .ok (.iconst 1, 1) := by decide +kernel
theorem dL_same_98 : decode cL_same 98 = .ok (.iadd, 1) := by decide +kernel
theorem dL_same_99 : decode cL_same 99 = .ok (.goto 5, 3) := by decide +kernel
theorem dL_same_102 : decode cL_same 102 = .ok (.iload 11, 2) := by decide +kernel
theorem dL_same_104 : decode cL_same 104 = .ok (.istore 11, 2) := by decide +kernel
theorem dL_same_106 : decode cL_same 106 = .ok (.iload 12, 2) := by decide +kernel
theorem dL_same_108 : decode cL_same 108 = .ok (.iload 17, 2) := by decide +kernel
theorem dL_same_110 : decode cL_same 110 = .ok (.iconst 1, 1) := by decide +kernel
theorem dL_same_111 : decode cL_same 111 = .ok (.if_icmp .ne 7, 3) := by decide +kernel
theorem dL_same_114 : decode cL_same 114 = .ok (.iconst 1, 1) := by decide +kernel
theorem dL_same_115 : decode cL_same 115 = .ok (.goto 4, 3) := by decide +kernel
theorem dL_same_118 : decode cL_same 118 = .ok (.iconst 0, 1) := by decide +kernel
theorem dL_same_119 : decode cL_same 119 = .ok (.iadd, 1) := by decide +kernel
theorem dL_same_120 : decode cL_same 120 = .ok (.istore 12, 2) := by decide +kernel
theorem dL_same_122 : decode cL_same 122 = .ok (.iload 13, 2) := by decide +kernel
theorem dL_same_124 : decode cL_same 124 = .ok (.iload 17, 2) := by decide +kernel
theorem dL_same_126 : decode cL_same 126 = .ok (.iconst 2, 1) := by decide +kernel
theorem dL_same_127 : decode cL_same 127 = .ok (.if_icmp .ne 7, 3) := by decide +kernel
theorem dL_same_130 : decode cL_same 130 = .ok (.iconst 1, 1) := by decide +kernel
theorem dL_same_131 : decode cL_same 131 = .ok (.goto 4, 3) := by decide +kernel
theorem dL_same_134 : decode cL_same 134 = .ok (.iconst 0, 1) := by decide +kernel
theorem dL_same_135 : decode cL_same 135 = .ok (.iadd, 1) := by decide +kernel
theorem dL_same_136 : decode cL_same 136 = .ok (.istore 13, 2) := by decide +kernel
theorem dL_same_138 : decode cL_same 138 = .ok (.iload 14, 2) := by decide +kernel
theorem dL_same_140 : decode cL_same 140 = .ok (.iload 17, 2) := by decide +kernel
theorem dL_same_142 : decode cL_same 142 = .ok (.iconst 3, 1) := by decide +kernel
theorem dL_same_143 : decode cL_same 143 = .ok (.if_icmp .ne 7, 3) := by decide +kernel
theorem dL_same_146 : decode cL_same 146 = .ok (.iconst 1, 1) := by decide +kernel
theorem dL_same_147 : decode cL_same 147 = .ok (.goto 4, 3) := by decide +kernel
theorem dL_same_150 : decode cL_same 150 = .ok (.iconst 0, 1) := by decide +kernel
theorem dL_same_151 : decode cL_same 151 = .ok (.iadd, 1) := by decide +kernel
theorem dL_same_152 : decode cL_same 152 = .ok (.istore 14, 2) := by decide +kernel
theorem dL_same_154 : decode cL_same 154 = .ok (.aload_n 0, 1) := by decide +kernel
theorem dL_same_155 : decode cL_same 155 = .ok (.iload 10, 2) := by decide +kernel
theorem dL_same_157 : decode cL_same 157 = .ok (.iload 16, 2) := by decide +kernel
theorem dL_same_159 : decode cL_same 159 = .ok (.bipush 40, 2) := by decide +kernel
theorem dL_same_161 : decode cL_same 161 = .ok (.irem, 1) := by decide +kernel
theorem dL_same_162 : decode cL_same 162 = .ok (.iconst 0, 1) := by decide +kernel
theorem dL_same_163 : decode cL_same 163 = .ok (.invokevirtual 53, 3) := by decide +kernel
theorem dL_same_166 : decode cL_same 166 = .ok (.iload 17, 2) := by decide +kernel
theorem dL_same_168 : decode cL_same 168 = .ok (.if_icmp .ne 54, 3) := by decide +kernel
theorem dL_same_171 : decode cL_same 171 = .ok (.aload_n 0, 1) := by decide +kernel
theorem dL_same_172 : decode cL_same 172 = .ok (.iload 10, 2) := by decide +kernel
theorem dL_same_174 : decode cL_same 174 = .ok (.iload 16, 2) := by decide +kernel
theorem dL_same_176 : decode cL_same 176 = .ok (.bipush 40, 2) := by decide +kernel
theorem dL_same_178 : decode cL_same 178 = .ok (.irem, 1) := by decide +kernel
theorem dL_same_179 : decode cL_same 179 = .ok (.iconst 1, 1) := by decide +kernel
theorem dL_same_180 : decode cL_same 180 = .ok (.invokevirtual 53, 3) := by decide +kernel
theorem dL_same_183 : decode cL_same 183 = .ok (.aload_n 2, 1) := by decide +kernel
theorem dL_same_184 : decode cL_same 184 = .ok (.iconst 4, 1) := by decide +kernel
theorem dL_same_185 : decode cL_same 185 = .ok (.aload_n 3, 1) := by decide +kernel
theorem dL_same_186 : decode cL_same 186 = .ok (.iload 15, 2) := by decide +kernel
theorem dL_same_188 : decode cL_same 188 = .ok (.iaload, 1) := by decide +kernel
theorem dL_same_189 : decode cL_same 189 = .ok (.bipush 11, 2) := by decide +kernel
theorem dL_same_191 : decode cL_same 191 = .ok (.ishr, 1) := by decide +kernel
theorem dL_same_192 : decode cL_same 192 = .ok (.bipush 7, 2) := by decide +kernel
theorem dL_same_194 : decode cL_same 194 = .ok (.iand, 1) := by decide +kernel
theorem dL_same_195 : decode cL_same 195 = .ok (.imul, 1) := by decide +kernel
theorem dL_same_196 : decode cL_same 196 = .ok (.iaload, 1) := by decide +kernel
theorem dL_same_197 : decode cL_same 197 = .ok (.if_icmp .ne 25, 3) := by decide +kernel
theorem dL_same_200 : decode cL_same 200 = .ok (.aload_n 0, 1) := by decide +kernel
theorem dL_same_201 : decode cL_same 201 = .ok (.iload 10, 2) := by decide +kernel
theorem dL_same_203 : decode cL_same 203 = .ok (.iload 16, 2) := by decide +kernel
theorem dL_same_205 : decode cL_same 205 = .ok (.bipush 40, 2) := by decide +kernel
theorem dL_same_207 : decode cL_same 207 = .ok (.irem, 1) := by decide +kernel
theorem dL_same_208 : decode cL_same 208 = .ok (.iconst 2, 1) := by decide +kernel
theorem dL_same_209 : decode cL_same 209 = .ok (.invokevirtual 53, 3) := by decide +kernel
theorem dL_same_212 : decode cL_same 212 = .ok (.aload_n 3, 1) := by decide +kernel
theorem dL_same_213 : decode cL_same 213 = .ok (.iload 15, 2) := by decide +kernel
theorem dL_same_215 : decode cL_same 215 = .ok (.iaload, 1) := by decide +kernel
theorem dL_same_216 : decode cL_same 216 = .ok (.invokestatic 10, 3) := by decide +kernel
theorem dL_same_219 : decode cL_same 219 = .ok (.if_icmp .eq 5, 3) := by decide +kernel
theorem dL_same_222 : decode cL_same 222 = .ok (.iconst 0, 1) := by decide +kernel
theorem dL_same_223 : decode cL_same 223 = .ok (.ireturn, 1) := by decide +kernel
theorem dL_same_224 : decode cL_same 224 = .ok (.iinc 15 1, 3) := by decide +kernel
theorem dL_same_227 : decode cL_same 227 = .ok (.goto (-186), 3) := by decide +kernel
theorem dL_same_230 : decode cL_same 230 = .ok (.iload 10, 2) := by decide +kernel
theorem dL_same_232 : decode cL_same 232 = .ok (.aload_n 3, 1) := by decide +kernel
theorem dL_same_233 : decode cL_same 233 = .ok (.aload_n 1, 1) := by decide +kernel
theorem dL_same_234 : decode cL_same 234 = .ok (.iconst 3, 1) := by decide +kernel
theorem dL_same_235 : decode cL_same 235 = .ok (.iaload, 1) := by decide +kernel
theorem dL_same_236 : decode cL_same 236 = .ok (.invokestatic 16, 3) := by decide +kernel
theorem dL_same_239 : decode cL_same 239 = .ok (.istore 15, 2) := by decide +kernel
theorem dL_same_241 : decode cL_same 241 = .ok (.iload 5, 2) := by decide +kernel
theorem dL_same_243 : decode cL_same 243 = .ok (.iload 11, 2) := by decide +kernel
theorem dL_same_245 : decode cL_same 245 = .ok (.ifCond .le 7, 3) := by decide +kernel
theorem dL_same_248 : decode cL_same 248 = .ok (.iconst 1, 1) := by decide +kernel
theorem dL_same_249 : decode cL_same 249 = .ok (.goto 4, 3) := by decide +kernel
theorem dL_same_252 : decode cL_same 252 = .ok (.iconst 0, 1) := by decide +kernel
theorem dL_same_253 : decode cL_same 253 = .ok (.iadd, 1) := by decide +kernel
theorem dL_same_254 : decode cL_same 254 = .ok (.istore 5, 2) := by decide +kernel
theorem dL_same_256 : decode cL_same 256 = .ok (.iload 6, 2) := by decide +kernel
theorem dL_same_258 : decode cL_same 258 = .ok (.iload 15, 2) := by decide +kernel
theorem dL_same_260 : decode cL_same 260 = .ok (.iadd, 1) := by decide +kernel
theorem dL_same_261 : decode cL_same 261 = .ok (.istore 6, 2) := by decide +kernel
theorem dL_same_263 : decode cL_same 263 = .ok (.aload_n 0, 1) := by decide +kernel
theorem dL_same_264 : decode cL_same 264 = .ok (.iload 10, 2) := by decide +kernel
theorem dL_same_266 : decode cL_same 266 = .ok (.iconst 0, 1) := by decide +kernel
theorem dL_same_267 : decode cL_same 267 = .ok (.invokevirtual 59, 3) := by decide +kernel
theorem dL_same_270 : decode cL_same 270 = .ok (.iload 15, 2) := by decide +kernel
theorem dL_same_272 : decode cL_same 272 = .ok (.if_icmp .ne 85, 3) := by decide +kernel
theorem dL_same_275 : decode cL_same 275 = .ok (.aload_n 0, 1) := by decide +kernel
theorem dL_same_276 : decode cL_same 276 = .ok (.iload 10, 2) := by decide +kernel
theorem dL_same_278 : decode cL_same 278 = .ok (.iconst 1, 1) := by decide +kernel
theorem dL_same_279 : decode cL_same 279 = .ok (.invokevirtual 59, 3) := by decide +kernel
theorem dL_same_282 : decode cL_same 282 = .ok (.iload 11, 2) := by decide +kernel
theorem dL_same_284 : decode cL_same 284 = .ok (.if_icmp .ne 73, 3) := by decide +kernel
theorem dL_same_287 : decode cL_same 287 = .ok (.aload_n 0, 1) := by decide +kernel
theorem dL_same_288 : decode cL_same 288 = .ok (.iload 10, 2) := by decide +kernel
theorem dL_same_290 : decode cL_same 290 = .ok (.iconst 2, 1) := by decide +kernel
theorem dL_same_291 : decode cL_same 291 = .ok (.invokevirtual 59, 3) := by decide +kernel
theorem dL_same_294 : decode cL_same 294 = .ok (.iload 12, 2) := by decide +kernel
theorem dL_same_296 : decode cL_same 296 = .ok (.if_icmp .ne 61, 3) := by decide +kernel
theorem dL_same_299 : decode cL_same 299 = .ok (.aload_n 0, 1) := by decide +kernel
theorem dL_same_300 : decode cL_same 300 = .ok (.iload 10, 2) := by decide +kernel
theorem dL_same_302 : decode cL_same 302 = .ok (.iconst 3, 1) := by decide +kernel
theorem dL_same_303 : decode cL_same 303 = .ok (.invokevirtual 59, 3) := by decide +kernel
theorem dL_same_306 : decode cL_same 306 = .ok (.iload 13, 2) := by decide +kernel
theorem dL_same_308 : decode cL_same 308 = .ok (.if_icmp .ne 49, 3) := by decide +kernel
theorem dL_same_311 : decode cL_same 311 = .ok (.aload_n 0, 1) := by decide +kernel
theorem dL_same_312 : decode cL_same 312 = .ok (.iload 10, 2) := by decide +kernel
theorem dL_same_314 : decode cL_same 314 = .ok (.iconst 4, 1) := by decide +kernel
theorem dL_same_315 : decode cL_same 315 = .ok (.invokevirtual 59, 3) := by decide +kernel
theorem dL_same_318 : decode cL_same 318 = .ok (.iload 14, 2) := by decide +kernel
theorem dL_same_320 : decode cL_same 320 = .ok (.if_icmp .ne 37, 3) := by decide +kernel
theorem dL_same_323 : decode cL_same 323 = .ok (.aload_n 0, 1) := by decide +kernel
theorem dL_same_324 : decode cL_same 324 = .ok (.iload 10, 2) := by decide +kernel
theorem dL_same_326 : decode cL_same 326 = .ok (.iconst 5, 1) := by decide +kernel
theorem dL_same_327 : decode cL_same 327 = .ok (.invokevirtual 59, 3) := by decide +kernel
theorem dL_same_330 : decode cL_same 330 = .ok (.iload 11, 2) := by decide +kernel
theorem dL_same_332 : decode cL_same 332 = .ok (.iload 12, 2) := by decide +kernel
theorem dL_same_334 : decode cL_same 334 = .ok (.isub, 1) := by decide +kernel
theorem dL_same_335 : decode cL_same 335 = .ok (.iload 13, 2) := by decide +kernel
theorem dL_same_337 : decode cL_same 337 = .ok (.isub, 1) := by decide +kernel
theorem dL_same_338 : decode cL_same 338 = .ok (.iload 14, 2) := by decide +kernel
theorem dL_same_340 : decode cL_same 340 = .ok (.isub, 1) := by decide +kernel
theorem dL_same_341 : decode cL_same 341 = .ok (.if_icmp .ne 16, 3) := by decide +kernel
theorem dL_same_344 : decode cL_same 344 = .ok (.aload_n 0, 1) := by decide +kernel
theorem dL_same_345 : decode cL_same 345 = .ok (.iload 10, 2) := by decide +kernel
theorem dL_same_347 : decode cL_same 347 = .ok (.iload 11, 2) := by decide +kernel
theorem dL_same_349 : decode cL_same 349 = .ok (.iconst 0, 1) := by decide +kernel
theorem dL_same_350 : decode cL_same 350 = .ok (.invokevirtual 53, 3) := by decide +kernel
theorem dL_same_353 : decode cL_same 353 = .ok (.iconst (-1), 1) := by decide +kernel
theorem dL_same_354 : decode cL_same 354 = .ok (.if_icmp .eq 5, 3) := by decide +kernel
theorem dL_same_357 : decode cL_same 357 = .ok (.iconst 0, 1) := by decide +kernel
theorem dL_same_358 : decode cL_same 358 = .ok (.ireturn, 1) := by decide +kernel
theorem dL_same_359 : decode cL_same 359 = .ok (.iinc 10 1, 3) := by decide +kernel
theorem dL_same_362 : decode cL_same 362 = .ok (.goto (-343), 3) := by decide +kernel
theorem dL_same_365 : decode cL_same 365 = .ok (.iconst 0, 1) := by decide +kernel
theorem dL_same_366 : decode cL_same 366 = .ok (.istore 10, 2) := by decide +kernel
theorem dL_same_368 : decode cL_same 368 = .ok (.iload 10, 2) := by decide +kernel
theorem dL_same_370 : decode cL_same 370 = .ok (.bipush 100, 2) := by decide +kernel
theorem dL_same_372 : decode cL_same 372 = .ok (.if_icmp .ge 501, 3) := by decide +kernel
theorem dL_same_375 : decode cL_same 375 = .ok (.iload 10, 2) := by decide +kernel
theorem dL_same_377 : decode cL_same 377 = .ok (.aload_n 2, 1) := by decide +kernel
theorem dL_same_378 : decode cL_same 378 = .ok (.invokestatic 38, 3) := by decide +kernel
theorem dL_same_381 : decode cL_same 381 = .ok (.istore 11, 2) := by decide +kernel
theorem dL_same_383 : decode cL_same 383 = .ok (.iload 11, 2) := by decide +kernel
theorem dL_same_385 : decode cL_same 385 = .ok (.ifCond .ge 16, 3) := by decide +kernel
theorem dL_same_388 : decode cL_same 388 = .ok (.aload_n 0, 1) := by decide +kernel
theorem dL_same_389 : decode cL_same 389 = .ok (.iload 10, 2) := by decide +kernel
theorem dL_same_391 : decode cL_same 391 = .ok (.iconst 0, 1) := by decide +kernel
theorem dL_same_392 : decode cL_same 392 = .ok (.invokevirtual 63, 3) := by decide +kernel
theorem dL_same_395 : decode cL_same 395 = .ok (.iconst (-1), 1) := by decide +kernel
theorem dL_same_396 : decode cL_same 396 = .ok (.if_icmp .eq 471, 3) := by decide +kernel
theorem dL_same_399 : decode cL_same 399 = .ok (.iconst 0, 1) := by decide +kernel
theorem dL_same_400 : decode cL_same 400 = .ok (.ireturn, 1) := by decide +kernel
theorem dL_same_401 : decode cL_same 401 = .ok (.iconst 4, 1) := by decide +kernel
theorem dL_same_402 : decode cL_same 402 = .ok (.iload 11, 2) := by decide +kernel
theorem dL_same_404 : decode cL_same 404 = .ok (.imul, 1) := by decide +kernel
theorem dL_same_405 : decode cL_same 405 = .ok (.istore 12, 2) := by decide +kernel
theorem dL_same_407 : decode cL_same 407 = .ok (.iload 11, 2) := by decide +kernel
theorem dL_same_409 : decode cL_same 409 = .ok (.aload_n 3, 1) := by decide +kernel
theorem dL_same_410 : decode cL_same 410 = .ok (.aload_n 1, 1) := by decide +kernel
theorem dL_same_411 : decode cL_same 411 = .ok (.iconst 3, 1) := by decide +kernel
theorem dL_same_412 : decode cL_same 412 = .ok (.iaload, 1) := by decide +kernel
theorem dL_same_413 : decode cL_same 413 = .ok (.invokestatic 46, 3) := by decide +kernel
theorem dL_same_416 : decode cL_same 416 = .ok (.istore 13, 2) := by decide +kernel
theorem dL_same_418 : decode cL_same 418 = .ok (.aload_n 3, 1) := by decide +kernel
theorem dL_same_419 : decode cL_same 419 = .ok (.iconst 1, 1) := by decide +kernel
theorem dL_same_420 : decode cL_same 420 = .ok (.iload 11, 2) := by decide +kernel
theorem dL_same_422 : decode cL_same 422 = .ok (.iconst 0, 1) := by decide +kernel
theorem dL_same_423 : decode cL_same 423 = .ok (.aload_n 3, 1) := by decide +kernel
theorem dL_same_424 : decode cL_same 424 = .ok (.aload_n 1, 1) := by decide +kernel
theorem dL_same_425 : decode cL_same 425 = .ok (.iconst 3, 1) := by decide +kernel
theorem dL_same_426 : decode cL_same 426 = .ok (.iaload, 1) := by decide +kernel
theorem dL_same_427 : decode cL_same 427 = .ok (.invokestatic 26, 3) := by decide +kernel
theorem dL_same_430 : decode cL_same 430 = .ok (.iaload, 1) := by decide +kernel
theorem dL_same_431 : decode cL_same 431 = .ok (.istore 14, 2) := by decide +kernel
theorem dL_same_433 : decode cL_same 433 = .ok (.iload 14, 2) := by decide +kernel
theorem dL_same_435 : decode cL_same 435 = .ok (.invokestatic 10, 3) := by decide +kernel
theorem dL_same_438 : decode cL_same 438 = .ok (.aload_n 2, 1) := by decide +kernel
theorem dL_same_439 : decode cL_same 439 = .ok (.iload 12, 2) := by decide +kernel
theorem dL_same_441 : decode cL_same 441 = .ok (.iconst 2, 1) := by decide +kernel
theorem dL_same_442 : decode cL_same 442 = .ok (.iadd, 1) := by decide +kernel
theorem dL_same_443 : decode cL_same 443 = .ok (.iaload, 1) := by decide +kernel
theorem dL_same_444 : decode cL_same 444 = .ok (.aload_n 2, 1) := by decide +kernel
theorem dL_same_445 : decode cL_same 445 = .ok (.iload 12, 2) := by decide +kernel
theorem dL_same_447 : decode cL_same 447 = .ok (.iconst 3, 1) := by decide +kernel
theorem dL_same_448 : decode cL_same 448 = .ok (.iadd, 1) := by decide +kernel
theorem dL_same_449 : decode cL_same 449 = .ok (.iaload, 1) := by decide +kernel
theorem dL_same_450 : decode cL_same 450 = .ok (.if_icmp .eq 7, 3) := by decide +kernel
theorem dL_same_453 : decode cL_same 453 = .ok (.iconst 1, 1) := by decide +kernel
theorem dL_same_454 : decode cL_same 454 = .ok (.goto 4, 3) := by decide +kernel
theorem dL_same_457 : decode cL_same 457 = .ok (.iconst 0, 1) := by decide +kernel
theorem dL_same_458 : decode cL_same 458 = .ok (.iadd, 1) := by decide +kernel
theorem dL_same_459 : decode cL_same 459 = .ok (.istore 15, 2) := by decide +kernel
theorem dL_same_461 : decode cL_same 461 = .ok (.iload 11, 2) := by decide +kernel
theorem dL_same_463 : decode cL_same 463 = .ok (.aload_n 2, 1) := by decide +kernel
theorem dL_same_464 : decode cL_same 464 = .ok (.aload_n 3, 1) := by decide +kernel
theorem dL_same_465 : decode cL_same 465 = .ok (.aload_n 1, 1) := by decide +kernel
theorem dL_same_466 : decode cL_same 466 = .ok (.iconst 3, 1) := by decide +kernel
theorem dL_same_467 : decode cL_same 467 = .ok (.iaload, 1) := by decide +kernel
theorem dL_same_468 : decode cL_same 468 = .ok (.invokestatic 49, 3) := by decide +kernel
theorem dL_same_471 : decode cL_same 471 = .ok (.istore 16, 2) := by decide +kernel
theorem dL_same_473 : decode cL_same 473 = .ok (.aload_n 0, 1) := by decide +kernel
theorem dL_same_474 : decode cL_same 474 = .ok (.iload 9, 2) := by decide +kernel
theorem dL_same_476 : decode cL_same 476 = .ok (.iinc 9 1, 3) := by decide +kernel
theorem dL_same_479 : decode cL_same 479 = .ok (.invokevirtual 66, 3) := by decide +kernel
theorem dL_same_482 : decode cL_same 482 = .ok (.iload 10, 2) := by decide +kernel
theorem dL_same_484 : decode cL_same 484 = .ok (.if_icmp .eq 5, 3) := by decide +kernel
theorem dL_same_487 : decode cL_same 487 = .ok (.iconst 0, 1) := by decide +kernel
theorem dL_same_488 : decode cL_same 488 = .ok (.ireturn, 1) := by decide +kernel
theorem dL_same_489 : decode cL_same 489 = .ok (.iconst 0, 1) := by decide +kernel
theorem dL_same_490 : decode cL_same 490 = .ok (.istore 17, 2) := by decide +kernel
theorem dL_same_492 : decode cL_same 492 = .ok (.iload 17, 2) := by decide +kernel
theorem dL_same_494 : decode cL_same 494 = .ok (.iload 13, 2) := by decide +kernel
theorem dL_same_496 : decode cL_same 496 = .ok (.if_icmp .ge 94, 3) := by decide +kernel
theorem dL_same_499 : decode cL_same 499 = .ok (.aload_n 3, 1) := by decide +kernel
theorem dL_same_500 : decode cL_same 500 = .ok (.iconst 2, 1) := by decide +kernel
theorem dL_same_501 : decode cL_same 501 = .ok (.iload 11, 2) := by decide +kernel
theorem dL_same_503 : decode cL_same 503 = .ok (.iload 17, 2) := by decide +kernel
theorem dL_same_505 : decode cL_same 505 = .ok (.aload_n 3, 1) := by decide +kernel
theorem dL_same_506 : decode cL_same 506 = .ok (.aload_n 1, 1) := by decide +kernel
theorem dL_same_507 : decode cL_same 507 = .ok (.iconst 3, 1) := by decide +kernel
theorem dL_same_508 : decode cL_same 508 = .ok (.iaload, 1) := by decide +kernel
theorem dL_same_509 : decode cL_same 509 = .ok (.invokestatic 26, 3) := by decide +kernel
theorem dL_same_512 : decode cL_same 512 = .ok (.iaload, 1) := by decide +kernel
theorem dL_same_513 : decode cL_same 513 = .ok (.istore 18, 2) := by decide +kernel
theorem dL_same_515 : decode cL_same 515 = .ok (.iload 15, 2) := by decide +kernel
theorem dL_same_517 : decode cL_same 517 = .ok (.iload 18, 2) := by decide +kernel
theorem dL_same_519 : decode cL_same 519 = .ok (.invokestatic 10, 3) := by decide +kernel
theorem dL_same_522 : decode cL_same 522 = .ok (.iadd, 1) := by decide +kernel
theorem dL_same_523 : decode cL_same 523 = .ok (.istore 15, 2) := by decide +kernel
theorem dL_same_525 : decode cL_same 525 = .ok (.aload_n 0, 1) := by decide +kernel
theorem dL_same_526 : decode cL_same 526 = .ok (.iload 10, 2) := by decide +kernel
theorem dL_same_528 : decode cL_same 528 = .ok (.iload 17, 2) := by decide +kernel
theorem dL_same_530 : decode cL_same 530 = .ok (.iconst 0, 1) := by decide +kernel
theorem dL_same_531 : decode cL_same 531 = .ok (.invokevirtual 69, 3) := by decide +kernel
theorem dL_same_534 : decode cL_same 534 = .ok (.iload 18, 2) := by decide +kernel
theorem dL_same_536 : decode cL_same 536 = .ok (.bipush 16, 2) := by decide +kernel
theorem dL_same_538 : decode cL_same 538 = .ok (.ishr, 1) := by decide +kernel
theorem dL_same_539 : decode cL_same 539 = .ok (.bipush 40, 2) := by decide +kernel
theorem dL_same_541 : decode cL_same 541 = .ok (.idiv, 1) := by decide +kernel
theorem dL_same_542 : decode cL_same 542 = .ok (.if_icmp .ne 40, 3) := by decide +kernel
theorem dL_same_545 : decode cL_same 545 = .ok (.aload_n 0, 1) := by decide +kernel
theorem dL_same_546 : decode cL_same 546 = .ok (.iload 10, 2) := by decide +kernel
theorem dL_same_548 : decode cL_same 548 = .ok (.iload 17, 2) := by decide +kernel
theorem dL_same_550 : decode cL_same 550 = .ok (.iconst 1, 1) := by decide +kernel
theorem dL_same_551 : decode cL_same 551 = .ok (.invokevirtual 69, 3) := by decide +kernel
theorem dL_same_554 : decode cL_same 554 = .ok (.iload 18, 2) := by decide +kernel
theorem dL_same_556 : decode cL_same 556 = .ok (.bipush 16, 2) := by decide +kernel
theorem dL_same_558 : decode cL_same 558 = .ok (.ishr, 1) := by decide +kernel
theorem dL_same_559 : decode cL_same 559 = .ok (.bipush 40, 2) := by decide +kernel
theorem dL_same_561 : decode cL_same 561 = .ok (.irem, 1) := by decide +kernel
theorem dL_same_562 : decode cL_same 562 = .ok (.if_icmp .ne 20, 3) := by decide +kernel
theorem dL_same_565 : decode cL_same 565 = .ok (.aload_n 0, 1) := by decide +kernel
theorem dL_same_566 : decode cL_same 566 = .ok (.iload 10, 2) := by decide +kernel
theorem dL_same_568 : decode cL_same 568 = .ok (.iload 17, 2) := by decide +kernel
theorem dL_same_570 : decode cL_same 570 = .ok (.iconst 2, 1) := by decide +kernel
theorem dL_same_571 : decode cL_same 571 = .ok (.invokevirtual 69, 3) := by decide +kernel
theorem dL_same_574 : decode cL_same 574 = .ok (.iload 18, 2) := by decide +kernel
theorem dL_same_576 : decode cL_same 576 = .ok (.bipush 31, 2) := by decide +kernel
theorem dL_same_578 : decode cL_same 578 = .ok (.iand, 1) := by decide +kernel
theorem dL_same_579 : decode cL_same 579 = .ok (.if_icmp .eq 5, 3) := by decide +kernel
theorem dL_same_582 : decode cL_same 582 = .ok (.iconst 0, 1) := by decide +kernel
theorem dL_same_583 : decode cL_same 583 = .ok (.ireturn, 1) := by decide +kernel
theorem dL_same_584 : decode cL_same 584 = .ok (.iinc 17 1, 3) := by decide +kernel
theorem dL_same_587 : decode cL_same 587 = .ok (.goto (-95), 3) := by decide +kernel
theorem dL_same_590 : decode cL_same 590 = .ok (.iconst 0, 1) := by decide +kernel
theorem dL_same_591 : decode cL_same 591 = .ok (.istore 17, 2) := by decide +kernel
theorem dL_same_593 : decode cL_same 593 = .ok (.iload 17, 2) := by decide +kernel
theorem dL_same_595 : decode cL_same 595 = .ok (.aload_n 2, 1) := by decide +kernel
theorem dL_same_596 : decode cL_same 596 = .ok (.iload 12, 2) := by decide +kernel
theorem dL_same_598 : decode cL_same 598 = .ok (.iconst 1, 1) := by decide +kernel
theorem dL_same_599 : decode cL_same 599 = .ok (.iadd, 1) := by decide +kernel
theorem dL_same_600 : decode cL_same 600 = .ok (.iaload, 1) := by decide +kernel
theorem dL_same_601 : decode cL_same 601 = .ok (.if_icmp .ge 31, 3) := by decide +kernel
theorem dL_same_604 : decode cL_same 604 = .ok (.aload_n 0, 1) := by decide +kernel
theorem dL_same_605 : decode cL_same 605 = .ok (.iload 10, 2) := by decide +kernel
theorem dL_same_607 : decode cL_same 607 = .ok (.iload 17, 2) := by decide +kernel
theorem dL_same_609 : decode cL_same 609 = .ok (.invokevirtual 72, 3) := by decide +kernel
theorem dL_same_612 : decode cL_same 612 = .ok (.iload 11, 2) := by decide +kernel
theorem dL_same_614 : decode cL_same 614 = .ok (.iload 17, 2) := by decide +kernel
theorem dL_same_616 : decode cL_same 616 = .ok (.aload 4, 2) := by decide +kernel
theorem dL_same_618 : decode cL_same 618 = .ok (.invokestatic 75, 3) := by decide +kernel
theorem dL_same_621 : decode cL_same 621 = .ok (.if_icmp .eq 5, 3) := by decide +kernel
theorem dL_same_624 : decode cL_same 624 = .ok (.iconst 0, 1) := by decide +kernel
theorem dL_same_625 : decode cL_same 625 = .ok (.ireturn, 1) := by decide +kernel
theorem dL_same_626 : decode cL_same 626 = .ok (.iinc 17 1, 3) := by decide +kernel
theorem dL_same_629 : decode cL_same 629 = .ok (.goto (-36), 3) := by decide +kernel
theorem dL_same_632 : decode cL_same 632 = .ok (.iload 7, 2) := by decide +kernel
theorem dL_same_634 : decode cL_same 634 = .ok (.aload_n 2, 1) := by decide +kernel
theorem dL_same_635 : decode cL_same 635 = .ok (.iload 12, 2) := by decide +kernel
theorem dL_same_637 : decode cL_same 637 = .ok (.iconst 1, 1) := by decide +kernel
theorem dL_same_638 : decode cL_same 638 = .ok (.iadd, 1) := by decide +kernel
theorem dL_same_639 : decode cL_same 639 = .ok (.iaload, 1) := by decide +kernel
theorem dL_same_640 : decode cL_same 640 = .ok (.iadd, 1) := by decide +kernel
theorem dL_same_641 : decode cL_same 641 = .ok (.istore 7, 2) := by decide +kernel
theorem dL_same_643 : decode cL_same 643 = .ok (.iload 16, 2) := by decide +kernel
theorem dL_same_645 : decode cL_same 645 = .ok (.iload 8, 2) := by decide +kernel
theorem dL_same_647 : decode cL_same 647 = .ok (.if_icmp .le 8, 3) := by decide +kernel
theorem dL_same_650 : decode cL_same 650 = .ok (.iload 16, 2) := by decide +kernel
theorem dL_same_652 : decode cL_same 652 = .ok (.goto 5, 3) := by decide +kernel
theorem dL_same_655 : decode cL_same 655 = .ok (.iload 8, 2) := by decide +kernel
theorem dL_same_657 : decode cL_same 657 = .ok (.istore 8, 2) := by decide +kernel
theorem dL_same_659 : decode cL_same 659 = .ok (.aload_n 0, 1) := by decide +kernel
theorem dL_same_660 : decode cL_same 660 = .ok (.iload 10, 2) := by decide +kernel
theorem dL_same_662 : decode cL_same 662 = .ok (.iconst 0, 1) := by decide +kernel
theorem dL_same_663 : decode cL_same 663 = .ok (.invokevirtual 63, 3) := by decide +kernel
theorem dL_same_666 : decode cL_same 666 = .ok (.aload_n 2, 1) := by decide +kernel
theorem dL_same_667 : decode cL_same 667 = .ok (.iload 12, 2) := by decide +kernel
theorem dL_same_669 : decode cL_same 669 = .ok (.iconst 1, 1) := by decide +kernel
theorem dL_same_670 : decode cL_same 670 = .ok (.iadd, 1) := by decide +kernel
theorem dL_same_671 : decode cL_same 671 = .ok (.iaload, 1) := by decide +kernel
theorem dL_same_672 : decode cL_same 672 = .ok (.if_icmp .ne 193, 3) := by decide +kernel
theorem dL_same_675 : decode cL_same 675 = .ok (.aload_n 0, 1) := by decide +kernel
theorem dL_same_676 : decode cL_same 676 = .ok (.iload 10, 2) := by decide +kernel
theorem dL_same_678 : decode cL_same 678 = .ok (.iconst 1, 1) := by decide +kernel
theorem dL_same_679 : decode cL_same 679 = .ok (.invokevirtual 63, 3) := by decide +kernel
theorem dL_same_682 : decode cL_same 682 = .ok (.aload_n 2, 1) := by decide +kernel
theorem dL_same_683 : decode cL_same 683 = .ok (.iload 12, 2) := by decide +kernel
theorem dL_same_685 : decode cL_same 685 = .ok (.iconst 2, 1) := by decide +kernel
theorem dL_same_686 : decode cL_same 686 = .ok (.iadd, 1) := by decide +kernel
theorem dL_same_687 : decode cL_same 687 = .ok (.iaload, 1) := by decide +kernel
theorem dL_same_688 : decode cL_same 688 = .ok (.bipush 40, 2) := by decide +kernel
theorem dL_same_690 : decode cL_same 690 = .ok (.idiv, 1) := by decide +kernel
theorem dL_same_691 : decode cL_same 691 = .ok (.if_icmp .ne 174, 3) := by decide +kernel
theorem dL_same_694 : decode cL_same 694 = .ok (.aload_n 0, 1) := by decide +kernel
theorem dL_same_695 : decode cL_same 695 = .ok (.iload 10, 2) := by decide +kernel
theorem dL_same_697 : decode cL_same 697 = .ok (.iconst 2, 1) := by decide +kernel
theorem dL_same_698 : decode cL_same 698 = .ok (.invokevirtual 63, 3) := by decide +kernel
theorem dL_same_701 : decode cL_same 701 = .ok (.aload_n 2, 1) := by decide +kernel
theorem dL_same_702 : decode cL_same 702 = .ok (.iload 12, 2) := by decide +kernel
theorem dL_same_704 : decode cL_same 704 = .ok (.iconst 2, 1) := by decide +kernel
theorem dL_same_705 : decode cL_same 705 = .ok (.iadd, 1) := by decide +kernel
theorem dL_same_706 : decode cL_same 706 = .ok (.iaload, 1) := by decide +kernel
theorem dL_same_707 : decode cL_same 707 = .ok (.bipush 40, 2) := by decide +kernel
theorem dL_same_709 : decode cL_same 709 = .ok (.irem, 1) := by decide +kernel
theorem dL_same_710 : decode cL_same 710 = .ok (.if_icmp .ne 155, 3) := by decide +kernel
theorem dL_same_713 : decode cL_same 713 = .ok (.aload_n 0, 1) := by decide +kernel
theorem dL_same_714 : decode cL_same 714 = .ok (.iload 10, 2) := by decide +kernel
theorem dL_same_716 : decode cL_same 716 = .ok (.iconst 3, 1) := by decide +kernel
theorem dL_same_717 : decode cL_same 717 = .ok (.invokevirtual 63, 3) := by decide +kernel
theorem dL_same_720 : decode cL_same 720 = .ok (.aload_n 2, 1) := by decide +kernel
theorem dL_same_721 : decode cL_same 721 = .ok (.iload 12, 2) := by decide +kernel
theorem dL_same_723 : decode cL_same 723 = .ok (.iconst 3, 1) := by decide +kernel
theorem dL_same_724 : decode cL_same 724 = .ok (.iadd, 1) := by decide +kernel
theorem dL_same_725 : decode cL_same 725 = .ok (.iaload, 1) := by decide +kernel
theorem dL_same_726 : decode cL_same 726 = .ok (.bipush 40, 2) := by decide +kernel
theorem dL_same_728 : decode cL_same 728 = .ok (.idiv, 1) := by decide +kernel
theorem dL_same_729 : decode cL_same 729 = .ok (.if_icmp .ne 136, 3) := by decide +kernel
theorem dL_same_732 : decode cL_same 732 = .ok (.aload_n 0, 1) := by decide +kernel
theorem dL_same_733 : decode cL_same 733 = .ok (.iload 10, 2) := by decide +kernel
theorem dL_same_735 : decode cL_same 735 = .ok (.iconst 4, 1) := by decide +kernel
theorem dL_same_736 : decode cL_same 736 = .ok (.invokevirtual 63, 3) := by decide +kernel
theorem dL_same_739 : decode cL_same 739 = .ok (.aload_n 2, 1) := by decide +kernel
theorem dL_same_740 : decode cL_same 740 = .ok (.iload 12, 2) := by decide +kernel
theorem dL_same_742 : decode cL_same 742 = .ok (.iconst 3, 1) := by decide +kernel
theorem dL_same_743 : decode cL_same 743 = .ok (.iadd, 1) := by decide +kernel
theorem dL_same_744 : decode cL_same 744 = .ok (.iaload, 1) := by decide +kernel
theorem dL_same_745 : decode cL_same 745 = .ok (.bipush 40, 2) := by decide +kernel
theorem dL_same_747 : decode cL_same 747 = .ok (.irem, 1) := by decide +kernel
theorem dL_same_748 : decode cL_same 748 = .ok (.if_icmp .ne 117, 3) := by decide +kernel
theorem dL_same_751 : decode cL_same 751 = .ok (.aload_n 0, 1) := by decide +kernel
theorem dL_same_752 : decode cL_same 752 = .ok (.iload 10, 2) := by decide +kernel
theorem dL_same_754 : decode cL_same 754 = .ok (.iconst 5, 1) := by decide +kernel
theorem dL_same_755 : decode cL_same 755 = .ok (.invokevirtual 63, 3) := by decide +kernel
theorem dL_same_758 : decode cL_same 758 = .ok (.aload_n 2, 1) := by decide +kernel
theorem dL_same_759 : decode cL_same 759 = .ok (.iload 12, 2) := by decide +kernel
theorem dL_same_761 : decode cL_same 761 = .ok (.iconst 2, 1) := by decide +kernel
theorem dL_same_762 : decode cL_same 762 = .ok (.iadd, 1) := by decide +kernel
theorem dL_same_763 : decode cL_same 763 = .ok (.iaload, 1) := by decide +kernel
theorem dL_same_764 : decode cL_same 764 = .ok (.aload_n 2, 1) := by decide +kernel
theorem dL_same_765 : decode cL_same 765 = .ok (.iload 12, 2) := by decide +kernel
theorem dL_same_767 : decode cL_same 767 = .ok (.iconst 3, 1) := by decide +kernel
theorem dL_same_768 : decode cL_same 768 = .ok (.iadd, 1) := by decide +kernel
theorem dL_same_769 : decode cL_same 769 = .ok (.iaload, 1) := by decide +kernel
theorem dL_same_770 : decode cL_same 770 = .ok (.if_icmp .ne 7, 3) := by decide +kernel
theorem dL_same_773 : decode cL_same 773 = .ok (.iconst 0, 1) := by decide +kernel
theorem dL_same_774 : decode cL_same 774 = .ok (.goto 4, 3) := by decide +kernel
theorem dL_same_777 : decode cL_same 777 = .ok (.iconst 1, 1) := by decide +kernel
theorem dL_same_778 : decode cL_same 778 = .ok (.if_icmp .ne 87, 3) := by decide +kernel
theorem dL_same_781 : decode cL_same 781 = .ok (.aload_n 0, 1) := by decide +kernel
theorem dL_same_782 : decode cL_same 782 = .ok (.iload 10, 2) := by decide +kernel
theorem dL_same_784 : decode cL_same 784 = .ok (.bipush 6, 2) := by decide +kernel
theorem dL_same_786 : decode cL_same 786 = .ok (.invokevirtual 63, 3) := by decide +kernel
theorem dL_same_789 : decode cL_same 789 = .ok (.iload 14, 2) := by decide +kernel
theorem dL_same_791 : decode cL_same 791 = .ok (.bipush 31, 2) := by decide +kernel
theorem dL_same_793 : decode cL_same 793 = .ok (.iand, 1) := by decide +kernel
theorem dL_same_794 : decode cL_same 794 = .ok (.if_icmp .ne 71, 3) := by decide +kernel
theorem dL_same_797 : decode cL_same 797 = .ok (.aload_n 0, 1) := by decide +kernel
theorem dL_same_798 : decode cL_same 798 = .ok (.iload 10, 2) := by decide +kernel
theorem dL_same_800 : decode cL_same 800 = .ok (.bipush 7, 2) := by decide +kernel
theorem dL_same_802 : decode cL_same 802 = .ok (.invokevirtual 63, 3) := by decide +kernel
theorem dL_same_805 : decode cL_same 805 = .ok (.iload 13, 2) := by decide +kernel
theorem dL_same_807 : decode cL_same 807 = .ok (.if_icmp .ne 58, 3) := by decide +kernel
theorem dL_same_810 : decode cL_same 810 = .ok (.aload_n 0, 1) := by decide +kernel
theorem dL_same_811 : decode cL_same 811 = .ok (.iload 10, 2) := by decide +kernel
theorem dL_same_813 : decode cL_same 813 = .ok (.bipush 8, 2) := by decide +kernel
theorem dL_same_815 : decode cL_same 815 = .ok (.invokevirtual 63, 3) := by decide +kernel
theorem dL_same_818 : decode cL_same 818 = .ok (.iload 16, 2) := by decide +kernel
theorem dL_same_820 : decode cL_same 820 = .ok (.if_icmp .ne 45, 3) := by decide +kernel
theorem dL_same_823 : decode cL_same 823 = .ok (.aload_n 0, 1) := by decide +kernel
theorem dL_same_824 : decode cL_same 824 = .ok (.iload 10, 2) := by decide +kernel
theorem dL_same_826 : decode cL_same 826 = .ok (.bipush 9, 2) := by decide +kernel
theorem dL_same_828 : decode cL_same 828 = .ok (.invokevirtual 63, 3) := by decide +kernel
theorem dL_same_831 : decode cL_same 831 = .ok (.iload 15, 2) := by decide +kernel
theorem dL_same_833 : decode cL_same 833 = .ok (.if_icmp .ne 32, 3) := by decide +kernel
theorem dL_same_836 : decode cL_same 836 = .ok (.aload_n 0, 1) := by decide +kernel
theorem dL_same_837 : decode cL_same 837 = .ok (.iload 10, 2) := by decide +kernel
theorem dL_same_839 : decode cL_same 839 = .ok (.aload_n 2, 1) := by decide +kernel
theorem dL_same_840 : decode cL_same 840 = .ok (.iload 12, 2) := by decide +kernel
theorem dL_same_842 : decode cL_same 842 = .ok (.iconst 1, 1) := by decide +kernel
theorem dL_same_843 : decode cL_same 843 = .ok (.iadd, 1) := by decide +kernel
theorem dL_same_844 : decode cL_same 844 = .ok (.iaload, 1) := by decide +kernel
theorem dL_same_845 : decode cL_same 845 = .ok (.invokevirtual 72, 3) := by decide +kernel
theorem dL_same_848 : decode cL_same 848 = .ok (.iconst (-1), 1) := by decide +kernel
theorem dL_same_849 : decode cL_same 849 = .ok (.if_icmp .ne 16, 3) := by decide +kernel
theorem dL_same_852 : decode cL_same 852 = .ok (.aload_n 0, 1) := by decide +kernel
theorem dL_same_853 : decode cL_same 853 = .ok (.iload 10, 2) := by decide +kernel
theorem dL_same_855 : decode cL_same 855 = .ok (.iload 13, 2) := by decide +kernel
theorem dL_same_857 : decode cL_same 857 = .ok (.iconst 0, 1) := by decide +kernel
theorem dL_same_858 : decode cL_same 858 = .ok (.invokevirtual 69, 3) := by decide +kernel
theorem dL_same_861 : decode cL_same 861 = .ok (.iconst (-1), 1) := by decide +kernel
theorem dL_same_862 : decode cL_same 862 = .ok (.if_icmp .eq 5, 3) := by decide +kernel
theorem dL_same_865 : decode cL_same 865 = .ok (.iconst 0, 1) := by decide +kernel
theorem dL_same_866 : decode cL_same 866 = .ok (.ireturn, 1) := by decide +kernel
theorem dL_same_867 : decode cL_same 867 = .ok (.iinc 10 1, 3) := by decide +kernel
theorem dL_same_870 : decode cL_same 870 = .ok (.goto (-502), 3) := by decide +kernel
theorem dL_same_873 : decode cL_same 873 = .ok (.aload_n 0, 1) := by decide +kernel
theorem dL_same_874 : decode cL_same 874 = .ok (.iload 9, 2) := by decide +kernel
theorem dL_same_876 : decode cL_same 876 = .ok (.invokevirtual 66, 3) := by decide +kernel
theorem dL_same_879 : decode cL_same 879 = .ok (.iconst (-1), 1) := by decide +kernel
theorem dL_same_880 : decode cL_same 880 = .ok (.if_icmp .ne 132, 3) := by decide +kernel
theorem dL_same_883 : decode cL_same 883 = .ok (.aload_n 0, 1) := by decide +kernel
theorem dL_same_884 : decode cL_same 884 = .ok (.iconst 0, 1) := by decide +kernel
theorem dL_same_885 : decode cL_same 885 = .ok (.invokevirtual 78, 3) := by decide +kernel
theorem dL_same_888 : decode cL_same 888 = .ok (.aload_n 1, 1) := by decide +kernel
theorem dL_same_889 : decode cL_same 889 = .ok (.iconst 2, 1) := by decide +kernel
theorem dL_same_890 : decode cL_same 890 = .ok (.iaload, 1) := by decide +kernel
theorem dL_same_891 : decode cL_same 891 = .ok (.if_icmp .ne 121, 3) := by decide +kernel
theorem dL_same_894 : decode cL_same 894 = .ok (.aload_n 0, 1) := by decide +kernel
theorem dL_same_895 : decode cL_same 895 = .ok (.iconst 1, 1) := by decide +kernel
theorem dL_same_896 : decode cL_same 896 = .ok (.invokevirtual 78, 3) := by decide +kernel
theorem dL_same_899 : decode cL_same 899 = .ok (.iload 5, 2) := by decide +kernel
theorem dL_same_901 : decode cL_same 901 = .ok (.if_icmp .ne 111, 3) := by decide +kernel
theorem dL_same_904 : decode cL_same 904 = .ok (.aload_n 0, 1) := by decide +kernel
theorem dL_same_905 : decode cL_same 905 = .ok (.iconst 2, 1) := by decide +kernel
theorem dL_same_906 : decode cL_same 906 = .ok (.invokevirtual 78, 3) := by decide +kernel
theorem dL_same_909 : decode cL_same 909 = .ok (.iconst 3, 1) := by decide +kernel
theorem dL_same_910 : decode cL_same 910 = .ok (.aload_n 3, 1) := by decide +kernel
theorem dL_same_911 : decode cL_same 911 = .ok (.aload_n 1, 1) := by decide +kernel
theorem dL_same_912 : decode cL_same 912 = .ok (.iconst 3, 1) := by decide +kernel
theorem dL_same_913 : decode cL_same 913 = .ok (.iaload, 1) := by decide +kernel
theorem dL_same_914 : decode cL_same 914 = .ok (.invokestatic 81, 3) := by decide +kernel
theorem dL_same_917 : decode cL_same 917 = .ok (.if_icmp .ne 95, 3) := by decide +kernel
theorem dL_same_920 : decode cL_same 920 = .ok (.aload_n 0, 1) := by decide +kernel
theorem dL_same_921 : decode cL_same 921 = .ok (.iconst 3, 1) := by decide +kernel
theorem dL_same_922 : decode cL_same 922 = .ok (.invokevirtual 78, 3) := by decide +kernel
theorem dL_same_925 : decode cL_same 925 = .ok (.iconst 2, 1) := by decide +kernel
theorem dL_same_926 : decode cL_same 926 = .ok (.aload_n 3, 1) := by decide +kernel
theorem dL_same_927 : decode cL_same 927 = .ok (.aload_n 1, 1) := by decide +kernel
theorem dL_same_928 : decode cL_same 928 = .ok (.iconst 3, 1) := by decide +kernel
theorem dL_same_929 : decode cL_same 929 = .ok (.iaload, 1) := by decide +kernel
theorem dL_same_930 : decode cL_same 930 = .ok (.invokestatic 81, 3) := by decide +kernel
theorem dL_same_933 : decode cL_same 933 = .ok (.if_icmp .ne 79, 3) := by decide +kernel
theorem dL_same_936 : decode cL_same 936 = .ok (.aload_n 0, 1) := by decide +kernel
theorem dL_same_937 : decode cL_same 937 = .ok (.iconst 4, 1) := by decide +kernel
theorem dL_same_938 : decode cL_same 938 = .ok (.invokevirtual 78, 3) := by decide +kernel
theorem dL_same_941 : decode cL_same 941 = .ok (.iload 6, 2) := by decide +kernel
theorem dL_same_943 : decode cL_same 943 = .ok (.if_icmp .ne 69, 3) := by decide +kernel
theorem dL_same_946 : decode cL_same 946 = .ok (.aload_n 0, 1) := by decide +kernel
theorem dL_same_947 : decode cL_same 947 = .ok (.iconst 5, 1) := by decide +kernel
theorem dL_same_948 : decode cL_same 948 = .ok (.invokevirtual 78, 3) := by decide +kernel
theorem dL_same_951 : decode cL_same 951 = .ok (.aload_n 2, 1) := by decide +kernel
theorem dL_same_952 : decode cL_same 952 = .ok (.aload_n 3, 1) := by decide +kernel
theorem dL_same_953 : decode cL_same 953 = .ok (.aload_n 1, 1) := by decide +kernel
theorem dL_same_954 : decode cL_same 954 = .ok (.iconst 3, 1) := by decide +kernel
theorem dL_same_955 : decode cL_same 955 = .ok (.iaload, 1) := by decide +kernel
theorem dL_same_956 : decode cL_same 956 = .ok (.invokestatic 84, 3) := by decide +kernel
theorem dL_same_959 : decode cL_same 959 = .ok (.if_icmp .ne 53, 3) := by decide +kernel
theorem dL_same_962 : decode cL_same 962 = .ok (.aload_n 0, 1) := by decide +kernel
theorem dL_same_963 : decode cL_same 963 = .ok (.bipush 6, 2) := by decide +kernel
theorem dL_same_965 : decode cL_same 965 = .ok (.invokevirtual 78, 3) := by decide +kernel
theorem dL_same_968 : decode cL_same 968 = .ok (.iload 7, 2) := by decide +kernel
theorem dL_same_970 : decode cL_same 970 = .ok (.if_icmp .ne 42, 3) := by decide +kernel
theorem dL_same_973 : decode cL_same 973 = .ok (.aload_n 0, 1) := by decide +kernel
theorem dL_same_974 : decode cL_same 974 = .ok (.bipush 7, 2) := by decide +kernel
theorem dL_same_976 : decode cL_same 976 = .ok (.invokevirtual 78, 3) := by decide +kernel
theorem dL_same_979 : decode cL_same 979 = .ok (.iload 8, 2) := by decide +kernel
theorem dL_same_981 : decode cL_same 981 = .ok (.if_icmp .ne 31, 3) := by decide +kernel
theorem dL_same_984 : decode cL_same 984 = .ok (.aload_n 0, 1) := by decide +kernel
theorem dL_same_985 : decode cL_same 985 = .ok (.bipush 8, 2) := by decide +kernel
theorem dL_same_987 : decode cL_same 987 = .ok (.invokevirtual 78, 3) := by decide +kernel
theorem dL_same_990 : decode cL_same 990 = .ok (.aload_n 1, 1) := by decide +kernel
theorem dL_same_991 : decode cL_same 991 = .ok (.iconst 0, 1) := by decide +kernel
theorem dL_same_992 : decode cL_same 992 = .ok (.iaload, 1) := by decide +kernel
theorem dL_same_993 : decode cL_same 993 = .ok (.if_icmp .ne 19, 3) := by decide +kernel
theorem dL_same_996 : decode cL_same 996 = .ok (.aload_n 0, 1) := by decide +kernel
theorem dL_same_997 : decode cL_same 997 = .ok (.bipush 9, 2) := by decide +kernel
theorem dL_same_999 : decode cL_same 999 = .ok (.invokevirtual 78, 3) := by decide +kernel
theorem dL_same_1002 : decode cL_same 1002 = .ok (.aload_n 1, 1) := by decide +kernel
theorem dL_same_1003 : decode cL_same 1003 = .ok (.iconst 1, 1) := by decide +kernel
theorem dL_same_1004 : decode cL_same 1004 = .ok (.iaload, 1) := by decide +kernel
theorem dL_same_1005 : decode cL_same 1005 = .ok (.if_icmp .ne 7, 3) := by decide +kernel
theorem dL_same_1008 : decode cL_same 1008 = .ok (.iconst 1, 1) := by decide +kernel
theorem dL_same_1009 : decode cL_same 1009 = .ok (.goto 4, 3) := by decide +kernel
theorem dL_same_1012 : decode cL_same 1012 = .ok (.iconst 0, 1) := by decide +kernel
theorem dL_same_1013 : decode cL_same 1013 = .ok (.ireturn, 1) := by decide +kernel
theorem dL_copy_0 : decode cL_copy 0 = .ok (.iconst 0, 1) := by decide +kernel
theorem dL_copy_1 : decode cL_copy 1 = .ok (.istore 6, 2) := by decide +kernel
theorem dL_copy_3 : decode cL_copy 3 = .ok (.iload 6, 2) := by decide +kernel
theorem dL_copy_5 : decode cL_copy 5 = .ok (.iconst 4, 1) := by decide +kernel
theorem dL_copy_6 : decode cL_copy 6 = .ok (.if_icmp .ge 17, 3) := by decide +kernel
theorem dL_copy_9 : decode cL_copy 9 = .ok (.aload_n 3, 1) := by decide +kernel
theorem dL_copy_10 : decode cL_copy 10 = .ok (.iload 6, 2) := by decide +kernel
theorem dL_copy_12 : decode cL_copy 12 = .ok (.aload_n 0, 1) := by decide +kernel
theorem dL_copy_13 : decode cL_copy 13 = .ok (.iload 6, 2) := by decide +kernel
theorem dL_copy_15 : decode cL_copy 15 = .ok (.iaload, 1) := by decide +kernel
theorem dL_copy_16 : decode cL_copy 16 = .ok (.iastore, 1) := by decide +kernel
theorem dL_copy_17 : decode cL_copy 17 = .ok (.iinc 6 1, 3) := by decide +kernel
theorem dL_copy_20 : decode cL_copy 20 = .ok (.goto (-17), 3) := by decide +kernel
theorem dL_copy_23 : decode cL_copy 23 = .ok (.iconst 0, 1) := by decide +kernel
theorem dL_copy_24 : decode cL_copy 24 = .ok (.istore 6, 2) := by decide +kernel
theorem dL_copy_26 : decode cL_copy 26 = .ok (.iload 6, 2) := by decide +kernel
theorem dL_copy_28 : decode cL_copy 28 = .ok (.bipush 28, 2) := by decide +kernel
theorem dL_copy_30 : decode cL_copy 30 = .ok (.if_icmp .ge 18, 3) := by decide +kernel
theorem dL_copy_33 : decode cL_copy 33 = .ok (.aload 4, 2) := by decide +kernel
theorem dL_copy_35 : decode cL_copy 35 = .ok (.iload 6, 2) := by decide +kernel
theorem dL_copy_37 : decode cL_copy 37 = .ok (.aload_n 1, 1) := by decide +kernel
theorem dL_copy_38 : decode cL_copy 38 = .ok (.iload 6, 2) := by decide +kernel
theorem dL_copy_40 : decode cL_copy 40 = .ok (.iaload, 1) := by decide +kernel
theorem dL_copy_41 : decode cL_copy 41 = .ok (.iastore, 1) := by decide +kernel
theorem dL_copy_42 : decode cL_copy 42 = .ok (.iinc 6 1, 3) := by decide +kernel
theorem dL_copy_45 : decode cL_copy 45 = .ok (.goto (-19), 3) := by decide +kernel
theorem dL_copy_48 : decode cL_copy 48 = .ok (.iconst 0, 1) := by decide +kernel
theorem dL_copy_49 : decode cL_copy 49 = .ok (.istore 6, 2) := by decide +kernel
theorem dL_copy_51 : decode cL_copy 51 = .ok (.iload 6, 2) := by decide +kernel
theorem dL_copy_53 : decode cL_copy 53 = .ok (.bipush 64, 2) := by decide +kernel
theorem dL_copy_55 : decode cL_copy 55 = .ok (.if_icmp .ge 18, 3) := by decide +kernel
theorem dL_copy_58 : decode cL_copy 58 = .ok (.aload 5, 2) := by decide +kernel
theorem dL_copy_60 : decode cL_copy 60 = .ok (.iload 6, 2) := by decide +kernel
theorem dL_copy_62 : decode cL_copy 62 = .ok (.aload_n 2, 1) := by decide +kernel
theorem dL_copy_63 : decode cL_copy 63 = .ok (.iload 6, 2) := by decide +kernel
theorem dL_copy_65 : decode cL_copy 65 = .ok (.iaload, 1) := by decide +kernel
theorem dL_copy_66 : decode cL_copy 66 = .ok (.iastore, 1) := by decide +kernel
theorem dL_copy_67 : decode cL_copy 67 = .ok (.iinc 6 1, 3) := by decide +kernel
theorem dL_copy_70 : decode cL_copy 70 = .ok (.goto (-19), 3) := by decide +kernel
theorem dL_copy_73 : decode cL_copy 73 = .ok (.return_, 1) := by decide +kernel
theorem dL_would_0 : decode cL_would 0 = .ok (.bipush (-6), 2) := by decide +kernel
theorem dL_would_2 : decode cL_would 2 = .ok (.istore 8, 2) := by decide +kernel
theorem dL_would_4 : decode cL_would 4 = .ok (.iconst 0, 1) := by decide +kernel
theorem dL_would_5 : decode cL_would 5 = .ok (.istore 9, 2) := by decide +kernel
theorem dL_would_7 : decode cL_would 7 = .ok (.iload_n 1, 1) := by decide +kernel
theorem dL_would_8 : decode cL_would 8 = .ok (.bipush 17, 2) := by decide +kernel
theorem dL_would_10 : decode cL_would 10 = .ok (.invokestatic 88, 3) := by decide +kernel
theorem dL_would_13 : decode cL_would 13 = .ok (.istore 10, 2) := by decide +kernel
theorem dL_would_15 : decode cL_would 15 = .ok (.bipush 16, 2) := by decide +kernel
theorem dL_would_17 : decode cL_would 17 = .ok (.istore 11, 2) := by decide +kernel
theorem dL_would_19 : decode cL_would 19 = .ok (.iload 11, 2) := by decide +kernel
theorem dL_would_21 : decode cL_would 21 = .ok (.ifCond .lt 222, 3) := by decide +kernel
theorem dL_would_24 : decode cL_would 24 = .ok (.aload_n 2, 1) := by decide +kernel
theorem dL_would_25 : decode cL_would 25 = .ok (.aload_n 3, 1) := by decide +kernel
theorem dL_would_26 : decode cL_would 26 = .ok (.aload 4, 2) := by decide +kernel
theorem dL_would_28 : decode cL_would 28 = .ok (.aload 5, 2) := by decide +kernel
theorem dL_would_30 : decode cL_would 30 = .ok (.aload 6, 2) := by decide +kernel
theorem dL_would_32 : decode cL_would 32 = .ok (.aload 7, 2) := by decide +kernel
theorem dL_would_34 : decode cL_would 34 = .ok (.invokestatic 91, 3) := by decide +kernel
theorem dL_would_37 : decode cL_would 37 = .ok (.aload 5, 2) := by decide +kernel
theorem dL_would_39 : decode cL_would 39 = .ok (.iconst 0, 1) := by decide +kernel
theorem dL_would_40 : decode cL_would 40 = .ok (.iload 11, 2) := by decide +kernel
theorem dL_would_42 : decode cL_would 42 = .ok (.iastore, 1) := by decide +kernel
theorem dL_would_43 : decode cL_would 43 = .ok (.aload 5, 2) := by decide +kernel
theorem dL_would_45 : decode cL_would 45 = .ok (.aload 6, 2) := by decide +kernel
theorem dL_would_47 : decode cL_would 47 = .ok (.aload 7, 2) := by decide +kernel
theorem dL_would_49 : decode cL_would 49 = .ok (.invokestatic 95, 3) := by decide +kernel
theorem dL_would_52 : decode cL_would 52 = .ok (.istore 12, 2) := by decide +kernel
theorem dL_would_54 : decode cL_would 54 = .ok (.iload 12, 2) := by decide +kernel
theorem dL_would_56 : decode cL_would 56 = .ok (.ifCond .eq 17, 3) := by decide +kernel
theorem dL_would_59 : decode cL_would 59 = .ok (.aload 6, 2) := by decide +kernel
theorem dL_would_61 : decode cL_would 61 = .ok (.aload 7, 2) := by decide +kernel
theorem dL_would_63 : decode cL_would 63 = .ok (.aload 5, 2) := by decide +kernel
theorem dL_would_65 : decode cL_would 65 = .ok (.iconst 3, 1) := by decide +kernel
theorem dL_would_66 : decode cL_would 66 = .ok (.iaload, 1) := by decide +kernel
theorem dL_would_67 : decode cL_would 67 = .ok (.invokestatic 84, 3) := by decide +kernel
theorem dL_would_70 : decode cL_would 70 = .ok (.goto 5, 3) := by decide +kernel
theorem dL_would_73 : decode cL_would 73 = .ok (.bipush (-5), 2) := by decide +kernel
theorem dL_would_75 : decode cL_would 75 = .ok (.istore 13, 2) := by decide +kernel
theorem dL_would_77 : decode cL_would 77 = .ok (.iload 11, 2) := by decide +kernel
theorem dL_would_79 : decode cL_would 79 = .ok (.iload 10, 2) := by decide +kernel
theorem dL_would_81 : decode cL_would 81 = .ok (.if_icmp .ne 114, 3) := by decide +kernel
theorem dL_would_84 : decode cL_would 84 = .ok (.iconst 0, 1) := by decide +kernel
theorem dL_would_85 : decode cL_would 85 = .ok (.istore 14, 2) := by decide +kernel
theorem dL_would_87 : decode cL_would 87 = .ok (.iconst 0, 1) := by decide +kernel
theorem dL_would_88 : decode cL_would 88 = .ok (.istore 15, 2) := by decide +kernel
theorem dL_would_90 : decode cL_would 90 = .ok (.iload 15, 2) := by decide +kernel
theorem dL_would_92 : decode cL_would 92 = .ok (.bipush 10, 2) := by decide +kernel
theorem dL_would_94 : decode cL_would 94 = .ok (.if_icmp .ge 35, 3) := by decide +kernel
theorem dL_would_97 : decode cL_would 97 = .ok (.iload 14, 2) := by decide +kernel
theorem dL_would_99 : decode cL_would 99 = .ok (.iload 15, 2) := by decide +kernel
theorem dL_would_101 : decode cL_would 101 = .ok (.aload 7, 2) := by decide +kernel
theorem dL_would_103 : decode cL_would 103 = .ok (.aload 5, 2) := by decide +kernel
theorem dL_would_105 : decode cL_would 105 = .ok (.iconst 3, 1) := by decide +kernel
theorem dL_would_106 : decode cL_would 106 = .ok (.iaload, 1) := by decide +kernel
theorem dL_would_107 : decode cL_would 107 = .ok (.invokestatic 16, 3) := by decide +kernel
theorem dL_would_110 : decode cL_would 110 = .ok (.bipush 40, 2) := by decide +kernel
theorem dL_would_112 : decode cL_would 112 = .ok (.if_icmp .ge 7, 3) := by decide +kernel
theorem dL_would_115 : decode cL_would 115 = .ok (.iconst 1, 1) := by decide +kernel
theorem dL_would_116 : decode cL_would 116 = .ok (.goto 4, 3) := by decide +kernel
theorem dL_would_119 : decode cL_would 119 = .ok (.iconst 0, 1) := by decide +kernel
theorem dL_would_120 : decode cL_would 120 = .ok (.iadd, 1) := by decide +kernel
theorem dL_would_121 : decode cL_would 121 = .ok (.istore 14, 2) := by decide +kernel
theorem dL_would_123 : decode cL_would 123 = .ok (.iinc 15 1, 3) := by decide +kernel
theorem dL_would_126 : decode cL_would 126 = .ok (.goto (-36), 3) := by decide +kernel
theorem dL_would_129 : decode cL_would 129 = .ok (.aload_n 0, 1) := by decide +kernel
theorem dL_would_130 : decode cL_would 130 = .ok (.iload 11, 2) := by decide +kernel
theorem dL_would_132 : decode cL_would 132 = .ok (.iconst 0, 1) := by decide +kernel
theorem dL_would_133 : decode cL_would 133 = .ok (.invokevirtual 99, 3) := by decide +kernel
theorem dL_would_136 : decode cL_would 136 = .ok (.iload 13, 2) := by decide +kernel
theorem dL_would_138 : decode cL_would 138 = .ok (.if_icmp .ne 55, 3) := by decide +kernel
theorem dL_would_141 : decode cL_would 141 = .ok (.aload_n 0, 1) := by decide +kernel
theorem dL_would_142 : decode cL_would 142 = .ok (.iload 11, 2) := by decide +kernel
theorem dL_would_144 : decode cL_would 144 = .ok (.iconst 1, 1) := by decide +kernel
theorem dL_would_145 : decode cL_would 145 = .ok (.invokevirtual 99, 3) := by decide +kernel
theorem dL_would_148 : decode cL_would 148 = .ok (.iload 12, 2) := by decide +kernel
theorem dL_would_150 : decode cL_would 150 = .ok (.ifCond .eq 8, 3) := by decide +kernel
theorem dL_would_153 : decode cL_would 153 = .ok (.iload 14, 2) := by decide +kernel
theorem dL_would_155 : decode cL_would 155 = .ok (.goto 5, 3) := by decide +kernel
theorem dL_would_158 : decode cL_would 158 = .ok (.iload 13, 2) := by decide +kernel
theorem dL_would_160 : decode cL_would 160 = .ok (.if_icmp .ne 33, 3) := by decide +kernel
theorem dL_would_163 : decode cL_would 163 = .ok (.aload_n 0, 1) := by decide +kernel
theorem dL_would_164 : decode cL_would 164 = .ok (.iload 11, 2) := by decide +kernel
theorem dL_would_166 : decode cL_would 166 = .ok (.iconst 2, 1) := by decide +kernel
theorem dL_would_167 : decode cL_would 167 = .ok (.invokevirtual 99, 3) := by decide +kernel
theorem dL_would_170 : decode cL_would 170 = .ok (.iload 12, 2) := by decide +kernel
theorem dL_would_172 : decode cL_would 172 = .ok (.ifCond .eq 16, 3) := by decide +kernel
theorem dL_would_175 : decode cL_would 175 = .ok (.iconst 2, 1) := by decide +kernel
theorem dL_would_176 : decode cL_would 176 = .ok (.aload 7, 2) := by decide +kernel
theorem dL_would_178 : decode cL_would 178 = .ok (.aload 5, 2) := by decide +kernel
theorem dL_would_180 : decode cL_would 180 = .ok (.iconst 3, 1) := by decide +kernel
theorem dL_would_181 : decode cL_would 181 = .ok (.iaload, 1) := by decide +kernel
theorem dL_would_182 : decode cL_would 182 = .ok (.invokestatic 81, 3) := by decide +kernel
theorem dL_would_185 : decode cL_would 185 = .ok (.goto 5, 3) := by decide +kernel
theorem dL_would_188 : decode cL_would 188 = .ok (.iload 13, 2) := by decide +kernel
theorem dL_would_190 : decode cL_would 190 = .ok (.if_icmp .eq 5, 3) := by decide +kernel
theorem dL_would_193 : decode cL_would 193 = .ok (.iconst 0, 1) := by decide +kernel
theorem dL_would_194 : decode cL_would 194 = .ok (.ireturn, 1) := by decide +kernel
theorem dL_would_195 : decode cL_would 195 = .ok (.iload 12, 2) := by decide +kernel
theorem dL_would_197 : decode cL_would 197 = .ok (.ifCond .eq 40, 3) := by decide +kernel
theorem dL_would_200 : decode cL_would 200 = .ok (.iload 11, 2) := by decide +kernel
theorem dL_would_202 : decode cL_would 202 = .ok (.iconst 2, 1) := by decide +kernel
theorem dL_would_203 : decode cL_would 203 = .ok (.irem, 1) := by decide +kernel
theorem dL_would_204 : decode cL_would 204 = .ok (.iconst 1, 1) := by decide +kernel
theorem dL_would_205 : decode cL_would 205 = .ok (.if_icmp .eq 32, 3) := by decide +kernel
theorem dL_would_208 : decode cL_would 208 = .ok (.aload_n 2, 1) := by decide +kernel
theorem dL_would_209 : decode cL_would 209 = .ok (.iconst 2, 1) := by decide +kernel
theorem dL_would_210 : decode cL_would 210 = .ok (.iaload, 1) := by decide +kernel
theorem dL_would_211 : decode cL_would 211 = .ok (.ifCond .eq 26, 3) := by decide +kernel
theorem dL_would_214 : decode cL_would 214 = .ok (.iload 8, 2) := by decide +kernel
theorem dL_would_216 : decode cL_would 216 = .ok (.ifCond .lt 13, 3) := by decide +kernel
theorem dL_would_219 : decode cL_would 219 = .ok (.iload 13, 2) := by decide +kernel
theorem dL_would_221 : decode cL_would 221 = .ok (.iload 9, 2) := by decide +kernel
theorem dL_would_223 : decode cL_would 223 = .ok (.if_icmp .le 6, 3) := by decide +kernel
theorem dL_would_226 : decode cL_would 226 = .ok (.goto 11, 3) := by decide +kernel
theorem dL_would_229 : decode cL_would 229 = .ok (.iload 11, 2) := by decide +kernel
theorem dL_would_231 : decode cL_would 231 = .ok (.istore 8, 2) := by decide +kernel
theorem dL_would_233 : decode cL_would 233 = .ok (.iload 13, 2) := by decide +kernel
theorem dL_would_235 : decode cL_would 235 = .ok (.istore 9, 2) := by decide +kernel
theorem dL_would_237 : decode cL_would 237 = .ok (.iinc 11 (-1), 3) := by decide +kernel
theorem dL_would_240 : decode cL_would 240 = .ok (.goto (-221), 3) := by decide +kernel
theorem dL_would_243 : decode cL_would 243 = .ok (.iload_n 1, 1) := by decide +kernel
theorem dL_would_244 : decode cL_would 244 = .ok (.iconst 5, 1) := by decide +kernel
theorem dL_would_245 : decode cL_would 245 = .ok (.ishr, 1) := by decide +kernel
theorem dL_would_246 : decode cL_would 246 = .ok (.bipush 100, 2) := by decide +kernel
theorem dL_would_248 : decode cL_would 248 = .ok (.invokestatic 88, 3) := by decide +kernel
theorem dL_would_251 : decode cL_would 251 = .ok (.istore 11, 2) := by decide +kernel
theorem dL_would_253 : decode cL_would 253 = .ok (.iload 11, 2) := by decide +kernel
theorem dL_would_255 : decode cL_would 255 = .ok (.aload_n 3, 1) := by decide +kernel
theorem dL_would_256 : decode cL_would 256 = .ok (.invokestatic 38, 3) := by decide +kernel
theorem dL_would_259 : decode cL_would 259 = .ok (.istore 12, 2) := by decide +kernel
theorem dL_would_261 : decode cL_would 261 = .ok (.bipush 40, 2) := by decide +kernel
theorem dL_would_263 : decode cL_would 263 = .ok (.istore 13, 2) := by decide +kernel
theorem dL_would_265 : decode cL_would 265 = .ok (.iload 13, 2) := by decide +kernel
theorem dL_would_267 : decode cL_would 267 = .ok (.ifCond .lt 61, 3) := by decide +kernel
theorem dL_would_270 : decode cL_would 270 = .ok (.aload_n 2, 1) := by decide +kernel
theorem dL_would_271 : decode cL_would 271 = .ok (.aload_n 3, 1) := by decide +kernel
theorem dL_would_272 : decode cL_would 272 = .ok (.aload 4, 2) := by decide +kernel
theorem dL_would_274 : decode cL_would 274 = .ok (.aload 5, 2) := by decide +kernel
theorem dL_would_276 : decode cL_would 276 = .ok (.aload 6, 2) := by decide +kernel
theorem dL_would_278 : decode cL_would 278 = .ok (.aload 7, 2) := by decide +kernel
theorem dL_would_280 : decode cL_would 280 = .ok (.invokestatic 91, 3) := by decide +kernel
theorem dL_would_283 : decode cL_would 283 = .ok (.iload 12, 2) := by decide +kernel
theorem dL_would_285 : decode cL_would 285 = .ok (.ifCond .ge 8, 3) := by decide +kernel
theorem dL_would_288 : decode cL_would 288 = .ok (.bipush 6, 2) := by decide +kernel
theorem dL_would_290 : decode cL_would 290 = .ok (.goto 5, 3) := by decide +kernel
theorem dL_would_293 : decode cL_would 293 = .ok (.iload 12, 2) := by decide +kernel
theorem dL_would_295 : decode cL_would 295 = .ok (.iload 13, 2) := by decide +kernel
theorem dL_would_297 : decode cL_would 297 = .ok (.iload 12, 2) := by decide +kernel
theorem dL_would_299 : decode cL_would 299 = .ok (.ifCond .ge 7, 3) := by decide +kernel
theorem dL_would_302 : decode cL_would 302 = .ok (.iconst 1, 1) := by decide +kernel
theorem dL_would_303 : decode cL_would 303 = .ok (.goto 4, 3) := by decide +kernel
theorem dL_would_306 : decode cL_would 306 = .ok (.iconst 0, 1) := by decide +kernel
theorem dL_would_307 : decode cL_would 307 = .ok (.aload 5, 2) := by decide +kernel
theorem dL_would_309 : decode cL_would 309 = .ok (.aload 6, 2) := by decide +kernel
theorem dL_would_311 : decode cL_would 311 = .ok (.aload 7, 2) := by decide +kernel
theorem dL_would_313 : decode cL_would 313 = .ok (.invokestatic 42, 3) := by decide +kernel
theorem dL_would_316 : decode cL_would 316 = .ok (.ifCond .eq 6, 3) := by decide +kernel
theorem dL_would_319 : decode cL_would 319 = .ok (.goto 9, 3) := by decide +kernel
theorem dL_would_322 : decode cL_would 322 = .ok (.iinc 13 (-1), 3) := by decide +kernel
theorem dL_would_325 : decode cL_would 325 = .ok (.goto (-60), 3) := by decide +kernel
theorem dL_would_328 : decode cL_would 328 = .ok (.aload_n 0, 1) := by decide +kernel
theorem dL_would_329 : decode cL_would 329 = .ok (.invokevirtual 102, 3) := by decide +kernel
theorem dL_would_332 : decode cL_would 332 = .ok (.iload 8, 2) := by decide +kernel
theorem dL_would_334 : decode cL_would 334 = .ok (.if_icmp .ne 28, 3) := by decide +kernel
theorem dL_would_337 : decode cL_would 337 = .ok (.aload_n 0, 1) := by decide +kernel
theorem dL_would_338 : decode cL_would 338 = .ok (.iload 11, 2) := by decide +kernel
theorem dL_would_340 : decode cL_would 340 = .ok (.invokevirtual 106, 3) := by decide +kernel
theorem dL_would_343 : decode cL_would 343 = .ok (.iload 13, 2) := by decide +kernel
theorem dL_would_345 : decode cL_would 345 = .ok (.ifCond .ge 8, 3) := by decide +kernel
theorem dL_would_348 : decode cL_would 348 = .ok (.bipush (-6), 2) := by decide +kernel
theorem dL_would_350 : decode cL_would 350 = .ok (.goto 5, 3) := by decide +kernel
theorem dL_would_353 : decode cL_would 353 = .ok (.iload 13, 2) := by decide +kernel
theorem dL_would_355 : decode cL_would 355 = .ok (.if_icmp .ne 7, 3) := by decide +kernel
theorem dL_would_358 : decode cL_would 358 = .ok (.iconst 1, 1) := by decide +kernel
theorem dL_would_359 : decode cL_would 359 = .ok (.goto 4, 3) := by decide +kernel
theorem dL_would_362 : decode cL_would 362 = .ok (.iconst 0, 1) := by decide +kernel
theorem dL_would_363 : decode cL_would 363 = .ok (.ireturn, 1) := by decide +kernel
theorem dL_law_0 : decode cL_law 0 = .ok (.new 54, 3) := by decide +kernel
theorem dL_law_3 : decode cL_law 3 = .ok (.dup, 1) := by decide +kernel
theorem dL_law_4 : decode cL_law 4 = .ok (.invokespecial 109, 3) := by decide +kernel
theorem dL_law_7 : decode cL_law 7 = .ok (.astore_n 1, 1) := by decide +kernel
theorem dL_law_8 : decode cL_law 8 = .ok (.iconst 4, 1) := by decide +kernel
theorem dL_law_9 : decode cL_law 9 = .ok (.newarray .int, 2) := by decide +kernel
theorem dL_law_11 : decode cL_law 11 = .ok (.astore_n 2, 1) := by decide +kernel
theorem dL_law_12 : decode cL_law 12 = .ok (.bipush 28, 2) := by decide +kernel
theorem dL_law_14 : decode cL_law 14 = .ok (.newarray .int, 2) := by decide +kernel
theorem dL_law_16 : decode cL_law 16 = .ok (.astore_n 3, 1) := by decide +kernel
theorem dL_law_17 : decode cL_law 17 = .ok (.bipush 64, 2) := by decide +kernel
theorem dL_law_19 : decode cL_law 19 = .ok (.newarray .int, 2) := by decide +kernel
theorem dL_law_21 : decode cL_law 21 = .ok (.astore 4, 2) := by decide +kernel
theorem dL_law_23 : decode cL_law 23 = .ok (.iconst 4, 1) := by decide +kernel
theorem dL_law_24 : decode cL_law 24 = .ok (.newarray .int, 2) := by decide +kernel
theorem dL_law_26 : decode cL_law 26 = .ok (.astore 5, 2) := by decide +kernel
theorem dL_law_28 : decode cL_law 28 = .ok (.bipush 28, 2) := by decide +kernel
theorem dL_law_30 : decode cL_law 30 = .ok (.newarray .int, 2) := by decide +kernel
theorem dL_law_32 : decode cL_law 32 = .ok (.astore 6, 2) := by decide +kernel
theorem dL_law_34 : decode cL_law 34 = .ok (.bipush 64, 2) := by decide +kernel
theorem dL_law_36 : decode cL_law 36 = .ok (.newarray .int, 2) := by decide +kernel
theorem dL_law_38 : decode cL_law 38 = .ok (.astore 7, 2) := by decide +kernel
theorem dL_law_40 : decode cL_law 40 = .ok (.bipush 12, 2) := by decide +kernel
theorem dL_law_42 : decode cL_law 42 = .ok (.newarray .long, 2) := by decide +kernel
theorem dL_law_44 : decode cL_law 44 = .ok (.astore 8, 2) := by decide +kernel
theorem dL_law_46 : decode cL_law 46 = .ok (.aload_n 2, 1) := by decide +kernel
theorem dL_law_47 : decode cL_law 47 = .ok (.iconst 0, 1) := by decide +kernel
theorem dL_law_48 : decode cL_law 48 = .ok (.bipush 6, 2) := by decide +kernel
theorem dL_law_50 : decode cL_law 50 = .ok (.iastore, 1) := by decide +kernel
theorem dL_law_51 : decode cL_law 51 = .ok (.aload_n 2, 1) := by decide +kernel
theorem dL_law_52 : decode cL_law 52 = .ok (.iconst 1, 1) := by decide +kernel
theorem dL_law_53 : decode cL_law 53 = .ok (.bipush 8, 2) := by decide +kernel
theorem dL_law_55 : decode cL_law 55 = .ok (.iastore, 1) := by decide +kernel
theorem dL_law_56 : decode cL_law 56 = .ok (.iconst 0, 1) := by decide +kernel
theorem dL_law_57 : decode cL_law 57 = .ok (.istore 9, 2) := by decide +kernel
theorem dL_law_59 : decode cL_law 59 = .ok (.iload 9, 2) := by decide +kernel
theorem dL_law_61 : decode cL_law 61 = .ok (.bipush 7, 2) := by decide +kernel
theorem dL_law_63 : decode cL_law 63 = .ok (.if_icmp .ge 18, 3) := by decide +kernel
theorem dL_law_66 : decode cL_law 66 = .ok (.aload_n 3, 1) := by decide +kernel
theorem dL_law_67 : decode cL_law 67 = .ok (.iconst 4, 1) := by decide +kernel
theorem dL_law_68 : decode cL_law 68 = .ok (.iload 9, 2) := by decide +kernel
theorem dL_law_70 : decode cL_law 70 = .ok (.imul, 1) := by decide +kernel
theorem dL_law_71 : decode cL_law 71 = .ok (.iconst 1, 1) := by decide +kernel
theorem dL_law_72 : decode cL_law 72 = .ok (.iadd, 1) := by decide +kernel
theorem dL_law_73 : decode cL_law 73 = .ok (.iconst (-1), 1) := by decide +kernel
theorem dL_law_74 : decode cL_law 74 = .ok (.iastore, 1) := by decide +kernel
theorem dL_law_75 : decode cL_law 75 = .ok (.iinc 9 1, 3) := by decide +kernel
theorem dL_law_78 : decode cL_law 78 = .ok (.goto (-19), 3) := by decide +kernel
theorem dL_law_81 : decode cL_law 81 = .ok (.iconst 0, 1) := by decide +kernel
theorem dL_law_82 : decode cL_law 82 = .ok (.istore 9, 2) := by decide +kernel
theorem dL_law_84 : decode cL_law 84 = .ok (.iload 9, 2) := by decide +kernel
theorem dL_law_86 : decode cL_law 86 = .ok (.bipush 22, 2) := by decide +kernel
theorem dL_law_88 : decode cL_law 88 = .ok (.if_icmp .ge 877, 3) := by decide +kernel
theorem dL_law_91 : decode cL_law 91 = .ok (.aload_n 0, 1) := by decide +kernel
theorem dL_law_92 : decode cL_law 92 = .ok (.iconst 2, 1) := by decide +kernel
theorem dL_law_93 : decode cL_law 93 = .ok (.iload 9, 2) := by decide +kernel
theorem dL_law_95 : decode cL_law 95 = .ok (.imul, 1) := by decide +kernel
theorem dL_law_96 : decode cL_law 96 = .ok (.invokestatic 110, 3) := by decide +kernel
theorem dL_law_99 : decode cL_law 99 = .ok (.istore 10, 2) := by decide +kernel
theorem dL_law_101 : decode cL_law 101 = .ok (.aload_n 0, 1) := by decide +kernel
theorem dL_law_102 : decode cL_law 102 = .ok (.iconst 2, 1) := by decide +kernel
theorem dL_law_103 : decode cL_law 103 = .ok (.iload 9, 2) := by decide +kernel
theorem dL_law_105 : decode cL_law 105 = .ok (.imul, 1) := by decide +kernel
theorem dL_law_106 : decode cL_law 106 = .ok (.iconst 1, 1) := by decide +kernel
theorem dL_law_107 : decode cL_law 107 = .ok (.iadd, 1) := by decide +kernel
theorem dL_law_108 : decode cL_law 108 = .ok (.invokestatic 110, 3) := by decide +kernel
theorem dL_law_111 : decode cL_law 111 = .ok (.istore 11, 2) := by decide +kernel
theorem dL_law_113 : decode cL_law 113 = .ok (.iload 9, 2) := by decide +kernel
theorem dL_law_115 : decode cL_law 115 = .ok (.iconst 5, 1) := by decide +kernel
theorem dL_law_116 : decode cL_law 116 = .ok (.if_icmp .ge 7, 3) := by decide +kernel
theorem dL_law_119 : decode cL_law 119 = .ok (.iconst 0, 1) := by decide +kernel
theorem dL_law_120 : decode cL_law 120 = .ok (.goto 10, 3) := by decide +kernel
theorem dL_law_123 : decode cL_law 123 = .ok (.iload 10, 2) := by decide +kernel
theorem dL_law_125 : decode cL_law 125 = .ok (.bipush 10, 2) := by decide +kernel
theorem dL_law_127 : decode cL_law 127 = .ok (.invokestatic 88, 3) := by decide +kernel
theorem dL_law_130 : decode cL_law 130 = .ok (.istore 12, 2) := by decide +kernel
theorem dL_law_132 : decode cL_law 132 = .ok (.iload 10, 2) := by decide +kernel
theorem dL_law_134 : decode cL_law 134 = .ok (.iconst 4, 1) := by decide +kernel
theorem dL_law_135 : decode cL_law 135 = .ok (.ishr, 1) := by decide +kernel
theorem dL_law_136 : decode cL_law 136 = .ok (.bipush 8, 2) := by decide +kernel
theorem dL_law_138 : decode cL_law 138 = .ok (.invokestatic 88, 3) := by decide +kernel
theorem dL_law_141 : decode cL_law 141 = .ok (.bipush 13, 2) := by decide +kernel
theorem dL_law_143 : decode cL_law 143 = .ok (.imul, 1) := by decide +kernel
theorem dL_law_144 : decode cL_law 144 = .ok (.istore 13, 2) := by decide +kernel
theorem dL_law_146 : decode cL_law 146 = .ok (.iload 13, 2) := by decide +kernel
theorem dL_law_148 : decode cL_law 148 = .ok (.aload_n 3, 1) := by decide +kernel
theorem dL_law_149 : decode cL_law 149 = .ok (.invokestatic 38, 3) := by decide +kernel
theorem dL_law_152 : decode cL_law 152 = .ok (.istore 14, 2) := by decide +kernel
theorem dL_law_154 : decode cL_law 154 = .ok (.iload 12, 2) := by decide +kernel
theorem dL_law_156 : decode cL_law 156 = .ok (.iconst 5, 1) := by decide +kernel
theorem dL_law_157 : decode cL_law 157 = .ok (.if_icmp .ge 339, 3) := by decide +kernel
theorem dL_law_160 : decode cL_law 160 = .ok (.iload 11, 2) := by decide +kernel
theorem dL_law_162 : decode cL_law 162 = .ok (.iload 10, 2) := by decide +kernel
theorem dL_law_164 : decode cL_law 164 = .ok (.bipush 8, 2) := by decide +kernel
theorem dL_law_166 : decode cL_law 166 = .ok (.ishr, 1) := by decide +kernel
theorem dL_law_167 : decode cL_law 167 = .ok (.iconst 3, 1) := by decide +kernel
theorem dL_law_168 : decode cL_law 168 = .ok (.invokestatic 88, 3) := by decide +kernel
theorem dL_law_171 : decode cL_law 171 = .ok (.ifCond .ne 8, 3) := by decide +kernel
theorem dL_law_174 : decode cL_law 174 = .ok (.bipush 25, 2) := by decide +kernel
theorem dL_law_176 : decode cL_law 176 = .ok (.goto 5, 3) := by decide +kernel
theorem dL_law_179 : decode cL_law 179 = .ok (.bipush 14, 2) := by decide +kernel
theorem dL_law_181 : decode cL_law 181 = .ok (.invokestatic 88, 3) := by decide +kernel
theorem dL_law_184 : decode cL_law 184 = .ok (.istore 15, 2) := by decide +kernel
theorem dL_law_186 : decode cL_law 186 = .ok (.iload 14, 2) := by decide +kernel
theorem dL_law_188 : decode cL_law 188 = .ok (.ifCond .ge 7, 3) := by decide +kernel
theorem dL_law_191 : decode cL_law 191 = .ok (.iconst 1, 1) := by decide +kernel
theorem dL_law_192 : decode cL_law 192 = .ok (.goto 4, 3) := by decide +kernel
theorem dL_law_195 : decode cL_law 195 = .ok (.iconst 0, 1) := by decide +kernel
theorem dL_law_196 : decode cL_law 196 = .ok (.istore 16, 2) := by decide +kernel
theorem dL_law_198 : decode cL_law 198 = .ok (.iconst 0, 1) := by decide +kernel
theorem dL_law_199 : decode cL_law 199 = .ok (.istore 17, 2) := by decide +kernel
theorem dL_law_201 : decode cL_law 201 = .ok (.iload 16, 2) := by decide +kernel
theorem dL_law_203 : decode cL_law 203 = .ok (.ifCond .eq 27, 3) := by decide +kernel
theorem dL_law_206 : decode cL_law 206 = .ok (.iload 17, 2) := by decide +kernel
theorem dL_law_208 : decode cL_law 208 = .ok (.bipush 6, 2) := by decide +kernel
theorem dL_law_210 : decode cL_law 210 = .ok (.if_icmp .ge 20, 3) := by decide +kernel
theorem dL_law_213 : decode cL_law 213 = .ok (.aload_n 3, 1) := by decide +kernel
theorem dL_law_214 : decode cL_law 214 = .ok (.iconst 4, 1) := by decide +kernel
theorem dL_law_215 : decode cL_law 215 = .ok (.iload 17, 2) := by decide +kernel
theorem dL_law_217 : decode cL_law 217 = .ok (.imul, 1) := by decide +kernel
theorem dL_law_218 : decode cL_law 218 = .ok (.iconst 1, 1) := by decide +kernel
theorem dL_law_219 : decode cL_law 219 = .ok (.iadd, 1) := by decide +kernel
theorem dL_law_220 : decode cL_law 220 = .ok (.iaload, 1) := by decide +kernel
theorem dL_law_221 : decode cL_law 221 = .ok (.ifCond .lt 9, 3) := by decide +kernel
theorem dL_law_224 : decode cL_law 224 = .ok (.iinc 17 1, 3) := by decide +kernel
theorem dL_law_227 : decode cL_law 227 = .ok (.goto (-26), 3) := by decide +kernel
theorem dL_law_230 : decode cL_law 230 = .ok (.iload 16, 2) := by decide +kernel
theorem dL_law_232 : decode cL_law 232 = .ok (.ifCond .eq 13, 3) := by decide +kernel
theorem dL_law_235 : decode cL_law 235 = .ok (.iload 17, 2) := by decide +kernel
theorem dL_law_237 : decode cL_law 237 = .ok (.bipush 6, 2) := by decide +kernel
theorem dL_law_239 : decode cL_law 239 = .ok (.if_icmp .ne 6, 3) := by decide +kernel
theorem dL_law_242 : decode cL_law 242 = .ok (.goto 717, 3) := by decide +kernel
theorem dL_law_245 : decode cL_law 245 = .ok (.iload 16, 2) := by decide +kernel
theorem dL_law_247 : decode cL_law 247 = .ok (.ifCond .eq 8, 3) := by decide +kernel
theorem dL_law_250 : decode cL_law 250 = .ok (.iload 17, 2) := by decide +kernel
theorem dL_law_252 : decode cL_law 252 = .ok (.goto 5, 3) := by decide +kernel
theorem dL_law_255 : decode cL_law 255 = .ok (.iload 14, 2) := by decide +kernel
theorem dL_law_257 : decode cL_law 257 = .ok (.istore 14, 2) := by decide +kernel
theorem dL_law_259 : decode cL_law 259 = .ok (.aload_n 1, 1) := by decide +kernel
theorem dL_law_260 : decode cL_law 260 = .ok (.invokevirtual 114, 3) := by decide +kernel
theorem dL_law_263 : decode cL_law 263 = .ok (.pop, 1) := by decide +kernel
theorem dL_law_264 : decode cL_law 264 = .ok (.iload 13, 2) := by decide +kernel
theorem dL_law_266 : decode cL_law 266 = .ok (.bipush 9, 2) := by decide +kernel
theorem dL_law_268 : decode cL_law 268 = .ok (.if_icmp .le 43, 3) := by decide +kernel
theorem dL_law_271 : decode cL_law 271 = .ok (.aload_n 1, 1) := by decide +kernel
theorem dL_law_272 : decode cL_law 272 = .ok (.bipush 48, 2) := by decide +kernel
theorem dL_law_274 : decode cL_law 274 = .ok (.iload 13, 2) := by decide +kernel
theorem dL_law_276 : decode cL_law 276 = .ok (.bipush 10, 2) := by decide +kernel
theorem dL_law_278 : decode cL_law 278 = .ok (.idiv, 1) := by decide +kernel
theorem dL_law_279 : decode cL_law 279 = .ok (.iadd, 1) := by decide +kernel
theorem dL_law_280 : decode cL_law 280 = .ok (.i2l, 1) := by decide +kernel
theorem dL_law_281 : decode cL_law 281 = .ok (.invokevirtual 117, 3) := by decide +kernel
theorem dL_law_284 : decode cL_law 284 = .ok (.ifCond .le 23, 3) := by decide +kernel
theorem dL_law_287 : decode cL_law 287 = .ok (.aload_n 1, 1) := by decide +kernel
theorem dL_law_288 : decode cL_law 288 = .ok (.bipush 48, 2) := by decide +kernel
theorem dL_law_290 : decode cL_law 290 = .ok (.iload 13, 2) := by decide +kernel
theorem dL_law_292 : decode cL_law 292 = .ok (.bipush 10, 2) := by decide +kernel
theorem dL_law_294 : decode cL_law 294 = .ok (.irem, 1) := by decide +kernel
theorem dL_law_295 : decode cL_law 295 = .ok (.iadd, 1) := by decide +kernel
theorem dL_law_296 : decode cL_law 296 = .ok (.i2l, 1) := by decide +kernel
theorem dL_law_297 : decode cL_law 297 = .ok (.invokevirtual 117, 3) := by decide +kernel
theorem dL_law_300 : decode cL_law 300 = .ok (.ifCond .le 7, 3) := by decide +kernel
theorem dL_law_303 : decode cL_law 303 = .ok (.iconst 1, 1) := by decide +kernel
theorem dL_law_304 : decode cL_law 304 = .ok (.goto 25, 3) := by decide +kernel
theorem dL_law_307 : decode cL_law 307 = .ok (.iconst 0, 1) := by decide +kernel
theorem dL_law_308 : decode cL_law 308 = .ok (.goto 21, 3) := by decide +kernel
theorem dL_law_311 : decode cL_law 311 = .ok (.aload_n 1, 1) := by decide +kernel
theorem dL_law_312 : decode cL_law 312 = .ok (.bipush 48, 2) := by decide +kernel
theorem dL_law_314 : decode cL_law 314 = .ok (.iload 13, 2) := by decide +kernel
theorem dL_law_316 : decode cL_law 316 = .ok (.iadd, 1) := by decide +kernel
theorem dL_law_317 : decode cL_law 317 = .ok (.i2l, 1) := by decide +kernel
theorem dL_law_318 : decode cL_law 318 = .ok (.invokevirtual 117, 3) := by decide +kernel
theorem dL_law_321 : decode cL_law 321 = .ok (.ifCond .le 7, 3) := by decide +kernel
theorem dL_law_324 : decode cL_law 324 = .ok (.iconst 1, 1) := by decide +kernel
theorem dL_law_325 : decode cL_law 325 = .ok (.goto 4, 3) := by decide +kernel
theorem dL_law_328 : decode cL_law 328 = .ok (.iconst 0, 1) := by decide +kernel
theorem dL_law_329 : decode cL_law 329 = .ok (.istore 18, 2) := by decide +kernel
theorem dL_law_331 : decode cL_law 331 = .ok (.iload 18, 2) := by decide +kernel
theorem dL_law_333 : decode cL_law 333 = .ok (.ifCond .eq 14, 3) := by decide +kernel
theorem dL_law_336 : decode cL_law 336 = .ok (.aload_n 1, 1) := by decide +kernel
theorem dL_law_337 : decode cL_law 337 = .ok (.ldc2_w 121, 3) := by decide +kernel
theorem dL_law_340 : decode cL_law 340 = .ok (.invokevirtual 117, 3) := by decide +kernel
theorem dL_law_343 : decode cL_law 343 = .ok (.iconst 1, 1) := by decide +kernel
theorem dL_law_344 : decode cL_law 344 = .ok (.if_icmp .ge 5, 3) := by decide +kernel
theorem dL_law_347 : decode cL_law 347 = .ok (.iconst 0, 1) := by decide +kernel
theorem dL_law_348 : decode cL_law 348 = .ok (.ireturn, 1) := by decide +kernel
theorem dL_law_349 : decode cL_law 349 = .ok (.aload 8, 2) := by decide +kernel
theorem dL_law_351 : decode cL_law 351 = .ok (.iconst 2, 1) := by decide +kernel
theorem dL_law_352 : decode cL_law 352 = .ok (.iload 14, 2) := by decide +kernel
theorem dL_law_354 : decode cL_law 354 = .ok (.imul, 1) := by decide +kernel
theorem dL_law_355 : decode cL_law 355 = .ok (.lconst 0, 1) := by decide +kernel
theorem dL_law_356 : decode cL_law 356 = .ok (.lastore, 1) := by decide +kernel
theorem dL_law_357 : decode cL_law 357 = .ok (.aload 8, 2) := by decide +kernel
theorem dL_law_359 : decode cL_law 359 = .ok (.iconst 2, 1) := by decide +kernel
theorem dL_law_360 : decode cL_law 360 = .ok (.iload 14, 2) := by decide +kernel
theorem dL_law_362 : decode cL_law 362 = .ok (.imul, 1) := by decide +kernel
theorem dL_law_363 : decode cL_law 363 = .ok (.iconst 1, 1) := by decide +kernel
theorem dL_law_364 : decode cL_law 364 = .ok (.iadd, 1) := by decide +kernel
theorem dL_law_365 : decode cL_law 365 = .ok (.lconst 0, 1) := by decide +kernel
theorem dL_law_366 : decode cL_law 366 = .ok (.lastore, 1) := by decide +kernel
theorem dL_law_367 : decode cL_law 367 = .ok (.iconst 0, 1) := by decide +kernel
theorem dL_law_368 : decode cL_law 368 = .ok (.istore 19, 2) := by decide +kernel
theorem dL_law_370 : decode cL_law 370 = .ok (.iload 19, 2) := by decide +kernel
theorem dL_law_372 : decode cL_law 372 = .ok (.iload 15, 2) := by decide +kernel
theorem dL_law_374 : decode cL_law 374 = .ok (.if_icmp .ge 69, 3) := by decide +kernel
theorem dL_law_377 : decode cL_law 377 = .ok (.iload 11, 2) := by decide +kernel
theorem dL_law_379 : decode cL_law 379 = .ok (.iload 19, 2) := by decide +kernel
theorem dL_law_381 : decode cL_law 381 = .ok (.bipush 23, 2) := by decide +kernel
theorem dL_law_383 : decode cL_law 383 = .ok (.irem, 1) := by decide +kernel
theorem dL_law_384 : decode cL_law 384 = .ok (.iconst 1, 1) := by decide +kernel
theorem dL_law_385 : decode cL_law 385 = .ok (.iadd, 1) := by decide +kernel
theorem dL_law_386 : decode cL_law 386 = .ok (.ishr, 1) := by decide +kernel
theorem dL_law_387 : decode cL_law 387 = .ok (.bipush 26, 2) := by decide +kernel
theorem dL_law_389 : decode cL_law 389 = .ok (.invokestatic 88, 3) := by decide +kernel
theorem dL_law_392 : decode cL_law 392 = .ok (.istore 20, 2) := by decide +kernel
theorem dL_law_394 : decode cL_law 394 = .ok (.aload 8, 2) := by decide +kernel
theorem dL_law_396 : decode cL_law 396 = .ok (.iconst 2, 1) := by decide +kernel
theorem dL_law_397 : decode cL_law 397 = .ok (.iload 14, 2) := by decide +kernel
theorem dL_law_399 : decode cL_law 399 = .ok (.imul, 1) := by decide +kernel
theorem dL_law_400 : decode cL_law 400 = .ok (.iload 19, 2) := by decide +kernel
theorem dL_law_402 : decode cL_law 402 = .ok (.bipush 12, 2) := by decide +kernel
theorem dL_law_404 : decode cL_law 404 = .ok (.idiv, 1) := by decide +kernel
theorem dL_law_405 : decode cL_law 405 = .ok (.iadd, 1) := by decide +kernel
theorem dL_law_406 : decode cL_law 406 = .ok (.dup2, 1) := by decide +kernel
theorem dL_law_407 : decode cL_law 407 = .ok (.laload, 1) := by decide +kernel
theorem dL_law_408 : decode cL_law 408 = .ok (.iload 20, 2) := by decide +kernel
theorem dL_law_410 : decode cL_law 410 = .ok (.i2l, 1) := by decide +kernel
theorem dL_law_411 : decode cL_law 411 = .ok (.iconst 5, 1) := by decide +kernel
theorem dL_law_412 : decode cL_law 412 = .ok (.iload 19, 2) := by decide +kernel
theorem dL_law_414 : decode cL_law 414 = .ok (.bipush 12, 2) := by decide +kernel
theorem dL_law_416 : decode cL_law 416 = .ok (.irem, 1) := by decide +kernel
theorem dL_law_417 : decode cL_law 417 = .ok (.imul, 1) := by decide +kernel
theorem dL_law_418 : decode cL_law 418 = .ok (.lshl, 1) := by decide +kernel
theorem dL_law_419 : decode cL_law 419 = .ok (.lor, 1) := by decide +kernel
theorem dL_law_420 : decode cL_law 420 = .ok (.lastore, 1) := by decide +kernel
theorem dL_law_421 : decode cL_law 421 = .ok (.aload_n 1, 1) := by decide +kernel
theorem dL_law_422 : decode cL_law 422 = .ok (.bipush 97, 2) := by decide +kernel
theorem dL_law_424 : decode cL_law 424 = .ok (.iload 20, 2) := by decide +kernel
theorem dL_law_426 : decode cL_law 426 = .ok (.iadd, 1) := by decide +kernel
theorem dL_law_427 : decode cL_law 427 = .ok (.i2l, 1) := by decide +kernel
theorem dL_law_428 : decode cL_law 428 = .ok (.invokevirtual 117, 3) := by decide +kernel
theorem dL_law_431 : decode cL_law 431 = .ok (.iconst 1, 1) := by decide +kernel
theorem dL_law_432 : decode cL_law 432 = .ok (.if_icmp .ge 5, 3) := by decide +kernel
theorem dL_law_435 : decode cL_law 435 = .ok (.iconst 0, 1) := by decide +kernel
theorem dL_law_436 : decode cL_law 436 = .ok (.ireturn, 1) := by decide +kernel
theorem dL_law_437 : decode cL_law 437 = .ok (.iinc 19 1, 3) := by decide +kernel
theorem dL_law_440 : decode cL_law 440 = .ok (.goto (-70), 3) := by decide +kernel
theorem dL_law_443 : decode cL_law 443 = .ok (.aload_n 3, 1) := by decide +kernel
theorem dL_law_444 : decode cL_law 444 = .ok (.iconst 4, 1) := by decide +kernel
theorem dL_law_445 : decode cL_law 445 = .ok (.iload 14, 2) := by decide +kernel
theorem dL_law_447 : decode cL_law 447 = .ok (.imul, 1) := by decide +kernel
theorem dL_law_448 : decode cL_law 448 = .ok (.iload 13, 2) := by decide +kernel
theorem dL_law_450 : decode cL_law 450 = .ok (.iastore, 1) := by decide +kernel
theorem dL_law_451 : decode cL_law 451 = .ok (.aload_n 2, 1) := by decide +kernel
theorem dL_law_452 : decode cL_law 452 = .ok (.iconst 2, 1) := by decide +kernel
theorem dL_law_453 : decode cL_law 453 = .ok (.dup2, 1) := by decide +kernel
theorem dL_law_454 : decode cL_law 454 = .ok (.iaload, 1) := by decide +kernel
theorem dL_law_455 : decode cL_law 455 = .ok (.iload 16, 2) := by decide +kernel
theorem dL_law_457 : decode cL_law 457 = .ok (.ifCond .eq 7, 3) := by decide +kernel
theorem dL_law_460 : decode cL_law 460 = .ok (.iconst 1, 1) := by decide +kernel
theorem dL_law_461 : decode cL_law 461 = .ok (.goto 4, 3) := by decide +kernel
theorem dL_law_464 : decode cL_law 464 = .ok (.iconst 0, 1) := by decide +kernel
theorem dL_law_465 : decode cL_law 465 = .ok (.iadd, 1) := by decide +kernel
theorem dL_law_466 : decode cL_law 466 = .ok (.iastore, 1) := by decide +kernel
theorem dL_law_467 : decode cL_law 467 = .ok (.iload 14, 2) := by decide +kernel
theorem dL_law_469 : decode cL_law 469 = .ok (.iload 15, 2) := by decide +kernel
theorem dL_law_471 : decode cL_law 471 = .ok (.iload 16, 2) := by decide +kernel
theorem dL_law_473 : decode cL_law 473 = .ok (.aload_n 2, 1) := by decide +kernel
theorem dL_law_474 : decode cL_law 474 = .ok (.aload_n 3, 1) := by decide +kernel
theorem dL_law_475 : decode cL_law 475 = .ok (.aload 4, 2) := by decide +kernel
theorem dL_law_477 : decode cL_law 477 = .ok (.invokestatic 42, 3) := by decide +kernel
theorem dL_law_480 : decode cL_law 480 = .ok (.ifCond .eq 11, 3) := by decide +kernel
theorem dL_law_483 : decode cL_law 483 = .ok (.aload_n 1, 1) := by decide +kernel
theorem dL_law_484 : decode cL_law 484 = .ok (.invokevirtual 123, 3) := by decide +kernel
theorem dL_law_487 : decode cL_law 487 = .ok (.iconst 1, 1) := by decide +kernel
theorem dL_law_488 : decode cL_law 488 = .ok (.if_icmp .eq 5, 3) := by decide +kernel
theorem dL_law_491 : decode cL_law 491 = .ok (.iconst 0, 1) := by decide +kernel
theorem dL_law_492 : decode cL_law 492 = .ok (.ireturn, 1) := by decide +kernel
theorem dL_law_493 : decode cL_law 493 = .ok (.goto 418, 3) := by decide +kernel
theorem dL_law_496 : decode cL_law 496 = .ok (.iload 12, 2) := by decide +kernel
theorem dL_law_498 : decode cL_law 498 = .ok (.iconst 5, 1) := by decide +kernel
theorem dL_law_499 : decode cL_law 499 = .ok (.if_icmp .eq 10, 3) := by decide +kernel
theorem dL_law_502 : decode cL_law 502 = .ok (.iload 12, 2) := by decide +kernel
theorem dL_law_504 : decode cL_law 504 = .ok (.bipush 6, 2) := by decide +kernel
theorem dL_law_506 : decode cL_law 506 = .ok (.if_icmp .ne 121, 3) := by decide +kernel
theorem dL_law_509 : decode cL_law 509 = .ok (.iload 11, 2) := by decide +kernel
theorem dL_law_511 : decode cL_law 511 = .ok (.bipush 26, 2) := by decide +kernel
theorem dL_law_513 : decode cL_law 513 = .ok (.invokestatic 88, 3) := by decide +kernel
theorem dL_law_516 : decode cL_law 516 = .ok (.istore 15, 2) := by decide +kernel
theorem dL_law_518 : decode cL_law 518 = .ok (.iload 14, 2) := by decide +kernel
theorem dL_law_520 : decode cL_law 520 = .ok (.ifCond .ge 7, 3) := by decide +kernel
theorem dL_law_523 : decode cL_law 523 = .ok (.iconst 0, 1) := by decide +kernel
theorem dL_law_524 : decode cL_law 524 = .ok (.goto 11, 3) := by decide +kernel
theorem dL_law_527 : decode cL_law 527 = .ok (.aload_n 3, 1) := by decide +kernel
theorem dL_law_528 : decode cL_law 528 = .ok (.iconst 4, 1) := by decide +kernel
theorem dL_law_529 : decode cL_law 529 = .ok (.iload 14, 2) := by decide +kernel
theorem dL_law_531 : decode cL_law 531 = .ok (.imul, 1) := by decide +kernel
theorem dL_law_532 : decode cL_law 532 = .ok (.iconst 1, 1) := by decide +kernel
theorem dL_law_533 : decode cL_law 533 = .ok (.iadd, 1) := by decide +kernel
theorem dL_law_534 : decode cL_law 534 = .ok (.iaload, 1) := by decide +kernel
theorem dL_law_535 : decode cL_law 535 = .ok (.istore 16, 2) := by decide +kernel
theorem dL_law_537 : decode cL_law 537 = .ok (.iload 16, 2) := by decide +kernel
theorem dL_law_539 : decode cL_law 539 = .ok (.bipush 24, 2) := by decide +kernel
theorem dL_law_541 : decode cL_law 541 = .ok (.if_icmp .ne 6, 3) := by decide +kernel
theorem dL_law_544 : decode cL_law 544 = .ok (.goto 415, 3) := by decide +kernel
theorem dL_law_547 : decode cL_law 547 = .ok (.iload 14, 2) := by decide +kernel
theorem dL_law_549 : decode cL_law 549 = .ok (.ifCond .lt 49, 3) := by decide +kernel
theorem dL_law_552 : decode cL_law 552 = .ok (.aload 8, 2) := by decide +kernel
theorem dL_law_554 : decode cL_law 554 = .ok (.iconst 2, 1) := by decide +kernel
theorem dL_law_555 : decode cL_law 555 = .ok (.iload 14, 2) := by decide +kernel
theorem dL_law_557 : decode cL_law 557 = .ok (.imul, 1) := by decide +kernel
theorem dL_law_558 : decode cL_law 558 = .ok (.iload 16, 2) := by decide +kernel
theorem dL_law_560 : decode cL_law 560 = .ok (.bipush 12, 2) := by decide +kernel
theorem dL_law_562 : decode cL_law 562 = .ok (.idiv, 1) := by decide +kernel
theorem dL_law_563 : decode cL_law 563 = .ok (.iadd, 1) := by decide +kernel
theorem dL_law_564 : decode cL_law 564 = .ok (.dup2, 1) := by decide +kernel
theorem dL_law_565 : decode cL_law 565 = .ok (.laload, 1) := by decide +kernel
theorem dL_law_566 : decode cL_law 566 = .ok (.iload 15, 2) := by decide +kernel
theorem dL_law_568 : decode cL_law 568 = .ok (.i2l, 1) := by decide +kernel
theorem dL_law_569 : decode cL_law 569 = .ok (.iconst 5, 1) := by decide +kernel
theorem dL_law_570 : decode cL_law 570 = .ok (.iload 16, 2) := by decide +kernel
theorem dL_law_572 : decode cL_law 572 = .ok (.bipush 12, 2) := by decide +kernel
theorem dL_law_574 : decode cL_law 574 = .ok (.irem, 1) := by decide +kernel
theorem dL_law_575 : decode cL_law 575 = .ok (.imul, 1) := by decide +kernel
theorem dL_law_576 : decode cL_law 576 = .ok (.lshl, 1) := by decide +kernel
theorem dL_law_577 : decode cL_law 577 = .ok (.lor, 1) := by decide +kernel
theorem dL_law_578 : decode cL_law 578 = .ok (.lastore, 1) := by decide +kernel
theorem dL_law_579 : decode cL_law 579 = .ok (.iload 14, 2) := by decide +kernel
theorem dL_law_581 : decode cL_law 581 = .ok (.iload 16, 2) := by decide +kernel
theorem dL_law_583 : decode cL_law 583 = .ok (.iconst 1, 1) := by decide +kernel
theorem dL_law_584 : decode cL_law 584 = .ok (.iadd, 1) := by decide +kernel
theorem dL_law_585 : decode cL_law 585 = .ok (.iconst 0, 1) := by decide +kernel
theorem dL_law_586 : decode cL_law 586 = .ok (.aload_n 2, 1) := by decide +kernel
theorem dL_law_587 : decode cL_law 587 = .ok (.aload_n 3, 1) := by decide +kernel
theorem dL_law_588 : decode cL_law 588 = .ok (.aload 4, 2) := by decide +kernel
theorem dL_law_590 : decode cL_law 590 = .ok (.invokestatic 42, 3) := by decide +kernel
theorem dL_law_593 : decode cL_law 593 = .ok (.ifCond .ne 5, 3) := by decide +kernel
theorem dL_law_596 : decode cL_law 596 = .ok (.iconst 0, 1) := by decide +kernel
theorem dL_law_597 : decode cL_law 597 = .ok (.ireturn, 1) := by decide +kernel
theorem dL_law_598 : decode cL_law 598 = .ok (.aload_n 1, 1) := by decide +kernel
theorem dL_law_599 : decode cL_law 599 = .ok (.iload 13, 2) := by decide +kernel
theorem dL_law_601 : decode cL_law 601 = .ok (.iload 15, 2) := by decide +kernel
theorem dL_law_603 : decode cL_law 603 = .ok (.invokevirtual 125, 3) := by decide +kernel
theorem dL_law_606 : decode cL_law 606 = .ok (.iload 14, 2) := by decide +kernel
theorem dL_law_608 : decode cL_law 608 = .ok (.ifCond .ge 7, 3) := by decide +kernel
theorem dL_law_611 : decode cL_law 611 = .ok (.iconst (-1), 1) := by decide +kernel
theorem dL_law_612 : decode cL_law 612 = .ok (.goto 7, 3) := by decide +kernel
theorem dL_law_615 : decode cL_law 615 = .ok (.iload 16, 2) := by decide +kernel
theorem dL_law_617 : decode cL_law 617 = .ok (.iconst 1, 1) := by decide +kernel
theorem dL_law_618 : decode cL_law 618 = .ok (.iadd, 1) := by decide +kernel
theorem dL_law_619 : decode cL_law 619 = .ok (.if_icmp .eq 5, 3) := by decide +kernel
theorem dL_law_622 : decode cL_law 622 = .ok (.iconst 0, 1) := by decide +kernel
theorem dL_law_623 : decode cL_law 623 = .ok (.ireturn, 1) := by decide +kernel
theorem dL_law_624 : decode cL_law 624 = .ok (.goto 287, 3) := by decide +kernel
theorem dL_law_627 : decode cL_law 627 = .ok (.iload 12, 2) := by decide +kernel
theorem dL_law_629 : decode cL_law 629 = .ok (.bipush 7, 2) := by decide +kernel
theorem dL_law_631 : decode cL_law 631 = .ok (.if_icmp .ne 133, 3) := by decide +kernel
theorem dL_law_634 : decode cL_law 634 = .ok (.iload 11, 2) := by decide +kernel
theorem dL_law_636 : decode cL_law 636 = .ok (.iconst 2, 1) := by decide +kernel
theorem dL_law_637 : decode cL_law 637 = .ok (.invokestatic 88, 3) := by decide +kernel
theorem dL_law_640 : decode cL_law 640 = .ok (.ifCond .ne 124, 3) := by decide +kernel
theorem dL_law_643 : decode cL_law 643 = .ok (.iconst 0, 1) := by decide +kernel
theorem dL_law_644 : decode cL_law 644 = .ok (.istore 15, 2) := by decide +kernel
theorem dL_law_646 : decode cL_law 646 = .ok (.aload_n 2, 1) := by decide +kernel
theorem dL_law_647 : decode cL_law 647 = .ok (.iconst 3, 1) := by decide +kernel
theorem dL_law_648 : decode cL_law 648 = .ok (.iaload, 1) := by decide +kernel
theorem dL_law_649 : decode cL_law 649 = .ok (.iconst 1, 1) := by decide +kernel
theorem dL_law_650 : decode cL_law 650 = .ok (.isub, 1) := by decide +kernel
theorem dL_law_651 : decode cL_law 651 = .ok (.istore 16, 2) := by decide +kernel
theorem dL_law_653 : decode cL_law 653 = .ok (.iload 16, 2) := by decide +kernel
theorem dL_law_655 : decode cL_law 655 = .ok (.ifCond .lt 54, 3) := by decide +kernel
theorem dL_law_658 : decode cL_law 658 = .ok (.iload 14, 2) := by decide +kernel
theorem dL_law_660 : decode cL_law 660 = .ok (.ifCond .lt 49, 3) := by decide +kernel
theorem dL_law_663 : decode cL_law 663 = .ok (.aload 4, 2) := by decide +kernel
theorem dL_law_665 : decode cL_law 665 = .ok (.iload 16, 2) := by decide +kernel
theorem dL_law_667 : decode cL_law 667 = .ok (.iaload, 1) := by decide +kernel
theorem dL_law_668 : decode cL_law 668 = .ok (.bipush 11, 2) := by decide +kernel
theorem dL_law_670 : decode cL_law 670 = .ok (.ishr, 1) := by decide +kernel
theorem dL_law_671 : decode cL_law 671 = .ok (.bipush 7, 2) := by decide +kernel
theorem dL_law_673 : decode cL_law 673 = .ok (.iand, 1) := by decide +kernel
theorem dL_law_674 : decode cL_law 674 = .ok (.iload 14, 2) := by decide +kernel
theorem dL_law_676 : decode cL_law 676 = .ok (.if_icmp .eq 6, 3) := by decide +kernel
theorem dL_law_679 : decode cL_law 679 = .ok (.goto 24, 3) := by decide +kernel
theorem dL_law_682 : decode cL_law 682 = .ok (.iload 15, 2) := by decide +kernel
theorem dL_law_684 : decode cL_law 684 = .ok (.aload 4, 2) := by decide +kernel
theorem dL_law_686 : decode cL_law 686 = .ok (.iload 16, 2) := by decide +kernel
theorem dL_law_688 : decode cL_law 688 = .ok (.iaload, 1) := by decide +kernel
theorem dL_law_689 : decode cL_law 689 = .ok (.invokestatic 10, 3) := by decide +kernel
theorem dL_law_692 : decode cL_law 692 = .ok (.iadd, 1) := by decide +kernel
theorem dL_law_693 : decode cL_law 693 = .ok (.istore 15, 2) := by decide +kernel
theorem dL_law_695 : decode cL_law 695 = .ok (.iload 16, 2) := by decide +kernel
theorem dL_law_697 : decode cL_law 697 = .ok (.aload 4, 2) := by decide +kernel
theorem dL_law_699 : decode cL_law 699 = .ok (.aload_n 2, 1) := by decide +kernel
theorem dL_law_700 : decode cL_law 700 = .ok (.invokestatic 30, 3) := by decide +kernel
theorem dL_law_703 : decode cL_law 703 = .ok (.iinc 16 (-1), 3) := by decide +kernel
theorem dL_law_706 : decode cL_law 706 = .ok (.goto (-53), 3) := by decide +kernel
theorem dL_law_709 : decode cL_law 709 = .ok (.aload_n 1, 1) := by decide +kernel
theorem dL_law_710 : decode cL_law 710 = .ok (.iload 13, 2) := by decide +kernel
theorem dL_law_712 : decode cL_law 712 = .ok (.invokevirtual 128, 3) := by decide +kernel
theorem dL_law_715 : decode cL_law 715 = .ok (.iload 14, 2) := by decide +kernel
theorem dL_law_717 : decode cL_law 717 = .ok (.ifCond .ge 7, 3) := by decide +kernel
theorem dL_law_720 : decode cL_law 720 = .ok (.iconst (-1), 1) := by decide +kernel
theorem dL_law_721 : decode cL_law 721 = .ok (.goto 5, 3) := by decide +kernel
theorem dL_law_724 : decode cL_law 724 = .ok (.iload 15, 2) := by decide +kernel
theorem dL_law_726 : decode cL_law 726 = .ok (.if_icmp .eq 5, 3) := by decide +kernel
theorem dL_law_729 : decode cL_law 729 = .ok (.iconst 0, 1) := by decide +kernel
theorem dL_law_730 : decode cL_law 730 = .ok (.ireturn, 1) := by decide +kernel
theorem dL_law_731 : decode cL_law 731 = .ok (.iload 14, 2) := by decide +kernel
theorem dL_law_733 : decode cL_law 733 = .ok (.ifCond .lt 12, 3) := by decide +kernel
theorem dL_law_736 : decode cL_law 736 = .ok (.aload_n 3, 1) := by decide +kernel
theorem dL_law_737 : decode cL_law 737 = .ok (.iconst 4, 1) := by decide +kernel
theorem dL_law_738 : decode cL_law 738 = .ok (.iload 14, 2) := by decide +kernel
theorem dL_law_740 : decode cL_law 740 = .ok (.imul, 1) := by decide +kernel
theorem dL_law_741 : decode cL_law 741 = .ok (.iconst 1, 1) := by decide +kernel
theorem dL_law_742 : decode cL_law 742 = .ok (.iadd, 1) := by decide +kernel
theorem dL_law_743 : decode cL_law 743 = .ok (.iconst (-1), 1) := by decide +kernel
theorem dL_law_744 : decode cL_law 744 = .ok (.iastore, 1) := by decide +kernel
theorem dL_law_745 : decode cL_law 745 = .ok (.aload_n 2, 1) := by decide +kernel
theorem dL_law_746 : decode cL_law 746 = .ok (.iconst 2, 1) := by decide +kernel
theorem dL_law_747 : decode cL_law 747 = .ok (.dup2, 1) := by decide +kernel
theorem dL_law_748 : decode cL_law 748 = .ok (.iaload, 1) := by decide +kernel
theorem dL_law_749 : decode cL_law 749 = .ok (.iload 14, 2) := by decide +kernel
theorem dL_law_751 : decode cL_law 751 = .ok (.ifCond .lt 7, 3) := by decide +kernel
theorem dL_law_754 : decode cL_law 754 = .ok (.iconst 1, 1) := by decide +kernel
theorem dL_law_755 : decode cL_law 755 = .ok (.goto 4, 3) := by decide +kernel
theorem dL_law_758 : decode cL_law 758 = .ok (.iconst 0, 1) := by decide +kernel
theorem dL_law_759 : decode cL_law 759 = .ok (.isub, 1) := by decide +kernel
theorem dL_law_760 : decode cL_law 760 = .ok (.iastore, 1) := by decide +kernel
theorem dL_law_761 : decode cL_law 761 = .ok (.goto 150, 3) := by decide +kernel
theorem dL_law_764 : decode cL_law 764 = .ok (.iload 12, 2) := by decide +kernel
theorem dL_law_766 : decode cL_law 766 = .ok (.bipush 8, 2) := by decide +kernel
theorem dL_law_768 : decode cL_law 768 = .ok (.if_icmp .ne 82, 3) := by decide +kernel
theorem dL_law_771 : decode cL_law 771 = .ok (.iload 11, 2) := by decide +kernel
theorem dL_law_773 : decode cL_law 773 = .ok (.iconst 2, 1) := by decide +kernel
theorem dL_law_774 : decode cL_law 774 = .ok (.invokestatic 88, 3) := by decide +kernel
theorem dL_law_777 : decode cL_law 777 = .ok (.ifCond .ne 73, 3) := by decide +kernel
theorem dL_law_780 : decode cL_law 780 = .ok (.aload_n 2, 1) := by decide +kernel
theorem dL_law_781 : decode cL_law 781 = .ok (.aload_n 3, 1) := by decide +kernel
theorem dL_law_782 : decode cL_law 782 = .ok (.aload 4, 2) := by decide +kernel
theorem dL_law_784 : decode cL_law 784 = .ok (.invokestatic 95, 3) := by decide +kernel
theorem dL_law_787 : decode cL_law 787 = .ok (.ifCond .ne 5, 3) := by decide +kernel
theorem dL_law_790 : decode cL_law 790 = .ok (.iconst 0, 1) := by decide +kernel
theorem dL_law_791 : decode cL_law 791 = .ok (.ireturn, 1) := by decide +kernel
theorem dL_law_792 : decode cL_law 792 = .ok (.iconst 0, 1) := by decide +kernel
theorem dL_law_793 : decode cL_law 793 = .ok (.istore 15, 2) := by decide +kernel
theorem dL_law_795 : decode cL_law 795 = .ok (.iconst 0, 1) := by decide +kernel
theorem dL_law_796 : decode cL_law 796 = .ok (.istore 16, 2) := by decide +kernel
theorem dL_law_798 : decode cL_law 798 = .ok (.iload 16, 2) := by decide +kernel
theorem dL_law_800 : decode cL_law 800 = .ok (.bipush 10, 2) := by decide +kernel
theorem dL_law_802 : decode cL_law 802 = .ok (.if_icmp .ge 34, 3) := by decide +kernel
theorem dL_law_805 : decode cL_law 805 = .ok (.iload 15, 2) := by decide +kernel
theorem dL_law_807 : decode cL_law 807 = .ok (.iload 16, 2) := by decide +kernel
theorem dL_law_809 : decode cL_law 809 = .ok (.aload 4, 2) := by decide +kernel
theorem dL_law_811 : decode cL_law 811 = .ok (.aload_n 2, 1) := by decide +kernel
theorem dL_law_812 : decode cL_law 812 = .ok (.iconst 3, 1) := by decide +kernel
theorem dL_law_813 : decode cL_law 813 = .ok (.iaload, 1) := by decide +kernel
theorem dL_law_814 : decode cL_law 814 = .ok (.invokestatic 16, 3) := by decide +kernel
theorem dL_law_817 : decode cL_law 817 = .ok (.bipush 40, 2) := by decide +kernel
theorem dL_law_819 : decode cL_law 819 = .ok (.if_icmp .ge 7, 3) := by decide +kernel
theorem dL_law_822 : decode cL_law 822 = .ok (.iconst 1, 1) := by decide +kernel
theorem dL_law_823 : decode cL_law 823 = .ok (.goto 4, 3) := by decide +kernel
theorem dL_law_826 : decode cL_law 826 = .ok (.iconst 0, 1) := by decide +kernel
theorem dL_law_827 : decode cL_law 827 = .ok (.iadd, 1) := by decide +kernel
theorem dL_law_828 : decode cL_law 828 = .ok (.istore 15, 2) := by decide +kernel
theorem dL_law_830 : decode cL_law 830 = .ok (.iinc 16 1, 3) := by decide +kernel
theorem dL_law_833 : decode cL_law 833 = .ok (.goto (-35), 3) := by decide +kernel
theorem dL_law_836 : decode cL_law 836 = .ok (.aload_n 1, 1) := by decide +kernel
theorem dL_law_837 : decode cL_law 837 = .ok (.invokevirtual 131, 3) := by decide +kernel
theorem dL_law_840 : decode cL_law 840 = .ok (.iload 15, 2) := by decide +kernel
theorem dL_law_842 : decode cL_law 842 = .ok (.if_icmp .eq 5, 3) := by decide +kernel
theorem dL_law_845 : decode cL_law 845 = .ok (.iconst 0, 1) := by decide +kernel
theorem dL_law_846 : decode cL_law 846 = .ok (.ireturn, 1) := by decide +kernel
theorem dL_law_847 : decode cL_law 847 = .ok (.goto 64, 3) := by decide +kernel
theorem dL_law_850 : decode cL_law 850 = .ok (.iload 11, 2) := by decide +kernel
theorem dL_law_852 : decode cL_law 852 = .ok (.iconst 2, 1) := by decide +kernel
theorem dL_law_853 : decode cL_law 853 = .ok (.invokestatic 88, 3) := by decide +kernel
theorem dL_law_856 : decode cL_law 856 = .ok (.istore 15, 2) := by decide +kernel
theorem dL_law_858 : decode cL_law 858 = .ok (.iload 15, 2) := by decide +kernel
theorem dL_law_860 : decode cL_law 860 = .ok (.ifCond .ne 15, 3) := by decide +kernel
theorem dL_law_863 : decode cL_law 863 = .ok (.iload 11, 2) := by decide +kernel
theorem dL_law_865 : decode cL_law 865 = .ok (.iconst 2, 1) := by decide +kernel
theorem dL_law_866 : decode cL_law 866 = .ok (.ishr, 1) := by decide +kernel
theorem dL_law_867 : decode cL_law 867 = .ok (.bipush 17, 2) := by decide +kernel
theorem dL_law_869 : decode cL_law 869 = .ok (.invokestatic 88, 3) := by decide +kernel
theorem dL_law_872 : decode cL_law 872 = .ok (.goto 14, 3) := by decide +kernel
theorem dL_law_875 : decode cL_law 875 = .ok (.iconst 4, 1) := by decide +kernel
theorem dL_law_876 : decode cL_law 876 = .ok (.iload 11, 2) := by decide +kernel
theorem dL_law_878 : decode cL_law 878 = .ok (.iconst 2, 1) := by decide +kernel
theorem dL_law_879 : decode cL_law 879 = .ok (.ishr, 1) := by decide +kernel
theorem dL_law_880 : decode cL_law 880 = .ok (.bipush 9, 2) := by decide +kernel
theorem dL_law_882 : decode cL_law 882 = .ok (.invokestatic 88, 3) := by decide +kernel
theorem dL_law_885 : decode cL_law 885 = .ok (.iadd, 1) := by decide +kernel
theorem dL_law_886 : decode cL_law 886 = .ok (.istore 16, 2) := by decide +kernel
theorem dL_law_888 : decode cL_law 888 = .ok (.aload_n 1, 1) := by decide +kernel
theorem dL_law_889 : decode cL_law 889 = .ok (.iload 15, 2) := by decide +kernel
theorem dL_law_891 : decode cL_law 891 = .ok (.iload 16, 2) := by decide +kernel
theorem dL_law_893 : decode cL_law 893 = .ok (.invokevirtual 133, 3) := by decide +kernel
theorem dL_law_896 : decode cL_law 896 = .ok (.aload_n 2, 1) := by decide +kernel
theorem dL_law_897 : decode cL_law 897 = .ok (.iload 15, 2) := by decide +kernel
theorem dL_law_899 : decode cL_law 899 = .ok (.iaload, 1) := by decide +kernel
theorem dL_law_900 : decode cL_law 900 = .ok (.if_icmp .eq 5, 3) := by decide +kernel
theorem dL_law_903 : decode cL_law 903 = .ok (.iconst 0, 1) := by decide +kernel
theorem dL_law_904 : decode cL_law 904 = .ok (.ireturn, 1) := by decide +kernel
theorem dL_law_905 : decode cL_law 905 = .ok (.aload_n 2, 1) := by decide +kernel
theorem dL_law_906 : decode cL_law 906 = .ok (.iload 15, 2) := by decide +kernel
theorem dL_law_908 : decode cL_law 908 = .ok (.iload 16, 2) := by decide +kernel
theorem dL_law_910 : decode cL_law 910 = .ok (.iastore, 1) := by decide +kernel
theorem dL_law_911 : decode cL_law 911 = .ok (.aload_n 1, 1) := by decide +kernel
theorem dL_law_912 : decode cL_law 912 = .ok (.aload_n 2, 1) := by decide +kernel
theorem dL_law_913 : decode cL_law 913 = .ok (.aload_n 3, 1) := by decide +kernel
theorem dL_law_914 : decode cL_law 914 = .ok (.aload 4, 2) := by decide +kernel
theorem dL_law_916 : decode cL_law 916 = .ok (.aload 8, 2) := by decide +kernel
theorem dL_law_918 : decode cL_law 918 = .ok (.invokestatic 136, 3) := by decide +kernel
theorem dL_law_921 : decode cL_law 921 = .ok (.ifCond .eq 36, 3) := by decide +kernel
theorem dL_law_924 : decode cL_law 924 = .ok (.iload 11, 2) := by decide +kernel
theorem dL_law_926 : decode cL_law 926 = .ok (.bipush 12, 2) := by decide +kernel
theorem dL_law_928 : decode cL_law 928 = .ok (.ishr, 1) := by decide +kernel
theorem dL_law_929 : decode cL_law 929 = .ok (.iconst 3, 1) := by decide +kernel
theorem dL_law_930 : decode cL_law 930 = .ok (.invokestatic 88, 3) := by decide +kernel
theorem dL_law_933 : decode cL_law 933 = .ok (.ifCond .ne 26, 3) := by decide +kernel
theorem dL_law_936 : decode cL_law 936 = .ok (.aload_n 1, 1) := by decide +kernel
theorem dL_law_937 : decode cL_law 937 = .ok (.iload 11, 2) := by decide +kernel
theorem dL_law_939 : decode cL_law 939 = .ok (.iconst 3, 1) := by decide +kernel
theorem dL_law_940 : decode cL_law 940 = .ok (.ishr, 1) := by decide +kernel
theorem dL_law_941 : decode cL_law 941 = .ok (.aload_n 2, 1) := by decide +kernel
theorem dL_law_942 : decode cL_law 942 = .ok (.aload_n 3, 1) := by decide +kernel
theorem dL_law_943 : decode cL_law 943 = .ok (.aload 4, 2) := by decide +kernel
theorem dL_law_945 : decode cL_law 945 = .ok (.aload 5, 2) := by decide +kernel
theorem dL_law_947 : decode cL_law 947 = .ok (.aload 6, 2) := by decide +kernel
theorem dL_law_949 : decode cL_law 949 = .ok (.aload 7, 2) := by decide +kernel
theorem dL_law_951 : decode cL_law 951 = .ok (.invokestatic 140, 3) := by decide +kernel
theorem dL_law_954 : decode cL_law 954 = .ok (.ifCond .ne 5, 3) := by decide +kernel
theorem dL_law_957 : decode cL_law 957 = .ok (.iconst 0, 1) := by decide +kernel
theorem dL_law_958 : decode cL_law 958 = .ok (.ireturn, 1) := by decide +kernel
theorem dL_law_959 : decode cL_law 959 = .ok (.iinc 9 1, 3) := by decide +kernel
theorem dL_law_962 : decode cL_law 962 = .ok (.goto (-878), 3) := by decide +kernel
theorem dL_law_965 : decode cL_law 965 = .ok (.iconst 1, 1) := by decide +kernel
theorem dL_law_966 : decode cL_law 966 = .ok (.ireturn, 1) := by decide +kernel
abbrev vwCl : List vw_C := [(RX0, TX0, 6), (RX1, TX1, 3), (RX2, TX2, 9), (RX3, TX3, 4), (RX7, TX7, 7), (RX4, TX4, 5)]
