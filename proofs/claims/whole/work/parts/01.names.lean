def RX0 : String := "OverflowRows$Book"
def TX0 : u_T := fun k => match k with
  | 0 => ("OverflowRows$Book", "headMost", "I", false)
  | 1 => ("OverflowRows$Book", "pieceMost", "I", false)
  | 2 => ("OverflowRows$Book", "rows", "I", false)
  | 3 => ("OverflowRows$Book", "pages", "LOverflowRows$Pages;", true)
  | 4 => ("OverflowRows$Book", "all", "[LOverflowRows$Row;", true)
  | _ => ("OverflowRows$Book", "numberOf", "[I", true)
def tyX0 : Nat → FieldType := fun k => match k with
  | 0 => .int
  | 1 => .int
  | 2 => .int
  | 3 => .object "OverflowRows$Pages"
  | 4 => .array (.object "OverflowRows$Row")
  | _ => .array .int
abbrev wsX00 : List Cond := u_ws RX0 TX0 6
theorem nmX0 : ∀ a, a < 6 → ∀ b, b < 6 → a ≠ b → (TX0 a).2.1 ≠ (TX0 b).2.1 := by decide +kernel
theorem tyX0_ok : ∀ k, k < 6 → parseFieldDescriptor (TX0 k).2.2.1 = some (tyX0 k) := by decide +kernel
abbrev cX0_init : ByteArray := prog_2_method_1_code
def yX0_init : MethodName := ⟨RX0, "<init>", "()V"⟩
abbrev cX0_copyFrom : ByteArray := prog_2_method_2_code
def yX0_copyFrom : MethodName := ⟨RX0, "copyFrom", "(LOverflowRows$Book;)V"⟩
abbrev cX0_rowOf : ByteArray := prog_2_method_3_code
def yX0_rowOf : MethodName := ⟨RX0, "rowOf", "(I)LOverflowRows$Row;"⟩
abbrev cX0_layRow : ByteArray := prog_2_method_4_code
def yX0_layRow : MethodName := ⟨RX0, "layRow", "(II)LOverflowRows$Row;"⟩
abbrev cX0_addRow : ByteArray := prog_2_method_5_code
def yX0_addRow : MethodName := ⟨RX0, "addRow", "(I)LOverflowRows$Row;"⟩
abbrev cX0_layNew : ByteArray := prog_2_method_6_code
def yX0_layNew : MethodName := ⟨RX0, "layNew", "(LOverflowRows$Row;)Z"⟩
abbrev cX0_layAgain : ByteArray := prog_2_method_7_code
def yX0_layAgain : MethodName := ⟨RX0, "layAgain", "(LOverflowRows$Row;)Z"⟩
abbrev cX0_layHeadAgain : ByteArray := prog_2_method_8_code
def yX0_layHeadAgain : MethodName := ⟨RX0, "layHeadAgain", "(LOverflowRows$Row;)I"⟩
abbrev cX0_layPieces : ByteArray := prog_2_method_9_code
def yX0_layPieces : MethodName := ⟨RX0, "layPieces", "(LOverflowRows$Row;)Z"⟩
abbrev cX0_liftPieces : ByteArray := prog_2_method_10_code
def yX0_liftPieces : MethodName := ⟨RX0, "liftPieces", "(LOverflowRows$Row;)V"⟩
abbrev cX0_headLetters : ByteArray := prog_2_method_11_code
def yX0_headLetters : MethodName := ⟨RX0, "headLetters", "(LOverflowRows$Row;)I"⟩
abbrev cX0_headCells : ByteArray := prog_2_method_12_code
def yX0_headCells : MethodName := ⟨RX0, "headCells", "(LOverflowRows$Row;)I"⟩
abbrev cX0_removeRow : ByteArray := prog_2_method_13_code
def yX0_removeRow : MethodName := ⟨RX0, "removeRow", "(LOverflowRows$Row;)V"⟩
abbrev cX0_packAll : ByteArray := prog_2_method_14_code
def yX0_packAll : MethodName := ⟨RX0, "packAll", "()Z"⟩
abbrev cX0_cellsOf : ByteArray := prog_2_method_15_code
def yX0_cellsOf : MethodName := ⟨RX0, "cellsOf", "(LOverflowRows$Row;)I"⟩
abbrev cX0_costInAll : ByteArray := prog_2_method_16_code
def yX0_costInAll : MethodName := ⟨RX0, "costInAll", "()I"⟩
abbrev cX0_greatestCost : ByteArray := prog_2_method_17_code
def yX0_greatestCost : MethodName := ⟨RX0, "greatestCost", "()I"⟩
abbrev cX0_lettersInAll : ByteArray := prog_2_method_18_code
def yX0_lettersInAll : MethodName := ⟨RX0, "lettersInAll", "()I"⟩
def RX1 : String := "OverflowRows$History"
def TX1 : u_T := fun k => match k with
  | 0 => ("OverflowRows$History", "states", "[LOverflowRows$Book;", true)
  | 1 => ("OverflowRows$History", "held", "I", false)
  | _ => ("OverflowRows$History", "oldest", "I", false)
def tyX1 : Nat → FieldType := fun k => match k with
  | 0 => .array (.object "OverflowRows$Book")
  | 1 => .int
  | _ => .int
abbrev wsX10 : List Cond := u_ws RX1 TX1 3
theorem nmX1 : ∀ a, a < 3 → ∀ b, b < 3 → a ≠ b → (TX1 a).2.1 ≠ (TX1 b).2.1 := by decide +kernel
theorem tyX1_ok : ∀ k, k < 3 → parseFieldDescriptor (TX1 k).2.2.1 = some (tyX1 k) := by decide +kernel
abbrev cX1_init : ByteArray := prog_3_method_1_code
def yX1_init : MethodName := ⟨RX1, "<init>", "()V"⟩
abbrev cX1_record : ByteArray := prog_3_method_2_code
def yX1_record : MethodName := ⟨RX1, "record", "(LOverflowRows$Book;)V"⟩
abbrev cX1_giveBack : ByteArray := prog_3_method_3_code
def yX1_giveBack : MethodName := ⟨RX1, "giveBack", "(LOverflowRows$Book;)V"⟩
def RX2 : String := "OverflowRows$Pad"
def TX2 : u_T := fun k => match k with
  | 0 => ("OverflowRows$Pad", "signs", "[I", true)
  | 1 => ("OverflowRows$Pad", "length", "I", false)
  | 2 => ("OverflowRows$Pad", "rows", "I", false)
  | 3 => ("OverflowRows$Pad", "keyOf", "[I", true)
  | 4 => ("OverflowRows$Pad", "textOf", "[I", true)
  | 5 => ("OverflowRows$Pad", "lettersOf", "[I", true)
  | 6 => ("OverflowRows$Pad", "inText", "Z", false)
  | 7 => ("OverflowRows$Pad", "digits", "I", false)
  | _ => ("OverflowRows$Pad", "number", "I", false)
def tyX2 : Nat → FieldType := fun k => match k with
  | 0 => .array .int
  | 1 => .int
  | 2 => .int
  | 3 => .array .int
  | 4 => .array .int
  | 5 => .array .int
  | 6 => .boolean
  | 7 => .int
  | _ => .int
abbrev wsX20 : List Cond := u_ws RX2 TX2 9
theorem nmX2 : ∀ a, a < 9 → ∀ b, b < 9 → a ≠ b → (TX2 a).2.1 ≠ (TX2 b).2.1 := by decide +kernel
theorem tyX2_ok : ∀ k, k < 9 → parseFieldDescriptor (TX2 k).2.2.1 = some (tyX2 k) := by decide +kernel
abbrev cX2_init : ByteArray := prog_4_method_1_code
def yX2_init : MethodName := ⟨RX2, "<init>", "()V"⟩
abbrev cX2_read : ByteArray := prog_4_method_2_code
def yX2_read : MethodName := ⟨RX2, "read", "()I"⟩
abbrev cX2_awaitKey : ByteArray := prog_4_method_3_code
def yX2_awaitKey : MethodName := ⟨RX2, "awaitKey", "()V"⟩
abbrev cX2_readInKey : ByteArray := prog_4_method_4_code
def yX2_readInKey : MethodName := ⟨RX2, "readInKey", "(II)Z"⟩
abbrev cX2_startText : ByteArray := prog_4_method_5_code
def yX2_startText : MethodName := ⟨RX2, "startText", "(I)Z"⟩
abbrev cX2_readInText : ByteArray := prog_4_method_6_code
def yX2_readInText : MethodName := ⟨RX2, "readInText", "(I)Z"⟩
def RX3 : String := "OverflowRows$Pages"
def TX3 : u_T := fun k => match k with
  | 0 => ("OverflowRows$Pages", "kind", "[I", true)
  | 1 => ("OverflowRows$Pages", "owner", "[I", true)
  | 2 => ("OverflowRows$Pages", "cells", "[I", true)
  | _ => ("OverflowRows$Pages", "free", "[I", true)
def tyX3 : Nat → FieldType := fun k => match k with
  | 0 => .array .int
  | 1 => .array .int
  | 2 => .array .int
  | _ => .array .int
abbrev wsX30 : List Cond := u_ws RX3 TX3 4
theorem nmX3 : ∀ a, a < 4 → ∀ b, b < 4 → a ≠ b → (TX3 a).2.1 ≠ (TX3 b).2.1 := by decide +kernel
theorem tyX3_ok : ∀ k, k < 4 → parseFieldDescriptor (TX3 k).2.2.1 = some (tyX3 k) := by decide +kernel
abbrev cX3_init : ByteArray := prog_5_method_1_code
def yX3_init : MethodName := ⟨RX3, "<init>", "()V"⟩
abbrev cX3_copyFrom : ByteArray := prog_5_method_2_code
def yX3_copyFrom : MethodName := ⟨RX3, "copyFrom", "(LOverflowRows$Pages;)V"⟩
abbrev cX3_clear : ByteArray := prog_5_method_3_code
def yX3_clear : MethodName := ⟨RX3, "clear", "()V"⟩
abbrev cX3_hasRoom : ByteArray := prog_5_method_4_code
def yX3_hasRoom : MethodName := ⟨RX3, "hasRoom", "(II)Z"⟩
abbrev cX3_occupy : ByteArray := prog_5_method_5_code
def yX3_occupy : MethodName := ⟨RX3, "occupy", "(IIII)V"⟩
abbrev cX3_vacate : ByteArray := prog_5_method_6_code
def yX3_vacate : MethodName := ⟨RX3, "vacate", "(I)V"⟩
abbrev cX3_place : ByteArray := prog_5_method_7_code
def yX3_place : MethodName := ⟨RX3, "place", "(III)I"⟩
abbrev cX3_lowestGap : ByteArray := prog_5_method_8_code
def yX3_lowestGap : MethodName := ⟨RX3, "lowestGap", "(I)I"⟩
abbrev cX3_slotsOf : ByteArray := prog_5_method_9_code
def yX3_slotsOf : MethodName := ⟨RX3, "slotsOf", "(I)I"⟩
abbrev cX3_thingsOn : ByteArray := prog_5_method_10_code
def yX3_thingsOn : MethodName := ⟨RX3, "thingsOn", "(II)I"⟩
abbrev cX3_thingsInAll : ByteArray := prog_5_method_11_code
def yX3_thingsInAll : MethodName := ⟨RX3, "thingsInAll", "(I)I"⟩
abbrev cX3_pagesInUse : ByteArray := prog_5_method_12_code
def yX3_pagesInUse : MethodName := ⟨RX3, "pagesInUse", "()I"⟩
abbrev cX3_freeInAll : ByteArray := prog_5_method_13_code
def yX3_freeInAll : MethodName := ⟨RX3, "freeInAll", "()I"⟩
def RX7 : String := "OverflowRows$Row"
def TX7 : u_T := fun k => match k with
  | 0 => ("OverflowRows$Row", "key", "I", false)
  | 1 => ("OverflowRows$Row", "letters", "I", false)
  | 2 => ("OverflowRows$Row", "home", "I", false)
  | 3 => ("OverflowRows$Row", "head", "I", false)
  | 4 => ("OverflowRows$Row", "pieces", "I", false)
  | 5 => ("OverflowRows$Row", "pieceSpots", "[I", true)
  | _ => ("OverflowRows$Row", "text", "[I", true)
def tyX7 : Nat → FieldType := fun k => match k with
  | 0 => .int
  | 1 => .int
  | 2 => .int
  | 3 => .int
  | 4 => .int
  | 5 => .array .int
  | _ => .array .int
abbrev wsX70 : List Cond := u_ws RX7 TX7 7
theorem nmX7 : ∀ a, a < 7 → ∀ b, b < 7 → a ≠ b → (TX7 a).2.1 ≠ (TX7 b).2.1 := by decide +kernel
theorem tyX7_ok : ∀ k, k < 7 → parseFieldDescriptor (TX7 k).2.2.1 = some (tyX7 k) := by decide +kernel
abbrev cX7_init : ByteArray := prog_6_method_1_code
def yX7_init : MethodName := ⟨RX7, "<init>", "()V"⟩
abbrev cX7_copyFrom : ByteArray := prog_6_method_2_code
def yX7_copyFrom : MethodName := ⟨RX7, "copyFrom", "(LOverflowRows$Row;)V"⟩
abbrev cX7_hasMoved : ByteArray := prog_6_method_3_code
def yX7_hasMoved : MethodName := ⟨RX7, "hasMoved", "()Z"⟩
abbrev cX7_cost : ByteArray := prog_6_method_4_code
def yX7_cost : MethodName := ⟨RX7, "cost", "()I"⟩
def RX4 : String := "OverflowRows"
def TX4 : u_T := fun k => match k with
  | 0 => ("OverflowRows", "pad", "LOverflowRows$Pad;", true)
  | 1 => ("OverflowRows", "history", "LOverflowRows$History;", true)
  | 2 => ("OverflowRows", "saved", "[LOverflowRows$Book;", true)
  | 3 => ("OverflowRows", "now", "LOverflowRows$Book;", false)
  | _ => ("OverflowRows", "trial", "LOverflowRows$Book;", false)
def tyX4 : Nat → FieldType := fun k => match k with
  | 0 => .object "OverflowRows$Pad"
  | 1 => .object "OverflowRows$History"
  | 2 => .array (.object "OverflowRows$Book")
  | 3 => .object "OverflowRows$Book"
  | _ => .object "OverflowRows$Book"
abbrev wsX40 : List Cond := u_ws RX4 TX4 5
theorem nmX4 : ∀ a, a < 5 → ∀ b, b < 5 → a ≠ b → (TX4 a).2.1 ≠ (TX4 b).2.1 := by decide +kernel
theorem tyX4_ok : ∀ k, k < 5 → parseFieldDescriptor (TX4 k).2.2.1 = some (tyX4 k) := by decide +kernel
abbrev cX4_init : ByteArray := prog_1_method_1_code
def yX4_init : MethodName := ⟨RX4, "<init>", "()V"⟩
abbrev cX4_set : ByteArray := prog_1_method_2_code
def yX4_set : MethodName := ⟨RX4, "set", "(II)I"⟩
abbrev cX4_setHead : ByteArray := prog_1_method_3_code
def yX4_setHead : MethodName := ⟨RX4, "setHead", "(I)I"⟩
abbrev cX4_setPiece : ByteArray := prog_1_method_4_code
def yX4_setPiece : MethodName := ⟨RX4, "setPiece", "(I)I"⟩
abbrev cX4_write : ByteArray := prog_1_method_5_code
def yX4_write : MethodName := ⟨RX4, "write", "()I"⟩
abbrev cX4_writePadRow : ByteArray := prog_1_method_6_code
def yX4_writePadRow : MethodName := ⟨RX4, "writePadRow", "(I)Z"⟩
abbrev cX4_append : ByteArray := prog_1_method_7_code
def yX4_append : MethodName := ⟨RX4, "append", "(II)I"⟩
abbrev cX4_delete : ByteArray := prog_1_method_8_code
def yX4_delete : MethodName := ⟨RX4, "delete", "(I)I"⟩
abbrev cX4_pack : ByteArray := prog_1_method_9_code
def yX4_pack : MethodName := ⟨RX4, "pack", "()I"⟩
abbrev cX4_tryPacking : ByteArray := prog_1_method_10_code
def yX4_tryPacking : MethodName := ⟨RX4, "tryPacking", "(I)Z"⟩
abbrev cX4_takeTrial : ByteArray := prog_1_method_11_code
def yX4_takeTrial : MethodName := ⟨RX4, "takeTrial", "()V"⟩
abbrev cX4_row : ByteArray := prog_1_method_12_code
def yX4_row : MethodName := ⟨RX4, "row", "(II)I"⟩
abbrev cX4_letter : ByteArray := prog_1_method_13_code
def yX4_letter : MethodName := ⟨RX4, "letter", "(II)I"⟩
abbrev cX4_piece : ByteArray := prog_1_method_14_code
def yX4_piece : MethodName := ⟨RX4, "piece", "(III)I"⟩
abbrev cX4_page : ByteArray := prog_1_method_15_code
def yX4_page : MethodName := ⟨RX4, "page", "(II)I"⟩
abbrev cX4_slot : ByteArray := prog_1_method_16_code
def yX4_slot : MethodName := ⟨RX4, "slot", "(III)I"⟩
abbrev cX4_count : ByteArray := prog_1_method_17_code
def yX4_count : MethodName := ⟨RX4, "count", "(I)I"⟩
abbrev cX4_key : ByteArray := prog_1_method_18_code
def yX4_key : MethodName := ⟨RX4, "key", "(I)I"⟩
abbrev cX4_ifPacked : ByteArray := prog_1_method_19_code
def yX4_ifPacked : MethodName := ⟨RX4, "ifPacked", "(II)I"⟩
abbrev cX4_bestHead : ByteArray := prog_1_method_20_code
def yX4_bestHead : MethodName := ⟨RX4, "bestHead", "()I"⟩
abbrev cX4_most : ByteArray := prog_1_method_21_code
def yX4_most : MethodName := ⟨RX4, "most", "(I)I"⟩
abbrev cX4_put : ByteArray := prog_1_method_22_code
def yX4_put : MethodName := ⟨RX4, "put", "(J)I"⟩
abbrev cX4_signsIn : ByteArray := prog_1_method_23_code
def yX4_signsIn : MethodName := ⟨RX4, "signsIn", "(J)I"⟩
abbrev cX4_signOf : ByteArray := prog_1_method_24_code
def yX4_signOf : MethodName := ⟨RX4, "signOf", "(JI)I"⟩
abbrev cX4_wipe : ByteArray := prog_1_method_25_code
def yX4_wipe : MethodName := ⟨RX4, "wipe", "()I"⟩
abbrev cX4_fault : ByteArray := prog_1_method_26_code
def yX4_fault : MethodName := ⟨RX4, "fault", "()I"⟩
abbrev cX4_undo : ByteArray := prog_1_method_27_code
def yX4_undo : MethodName := ⟨RX4, "undo", "()I"⟩
abbrev cX4_save : ByteArray := prog_1_method_28_code
def yX4_save : MethodName := ⟨RX4, "save", "(I)I"⟩
abbrev cX4_restore : ByteArray := prog_1_method_29_code
def yX4_restore : MethodName := ⟨RX4, "restore", "(I)I"⟩
abbrev cX4_at : ByteArray := prog_1_method_30_code
def yX4_at : MethodName := ⟨RX4, "at", "([II)I"⟩
abbrev cX4_store : ByteArray := prog_1_method_31_code
def yX4_store : MethodName := ⟨RX4, "store", "([III)V"⟩
def RX5 : String := "OverflowRowsModel"
def TX5 : u_T := fun k => match k with
  | 0 => ("OverflowRowsModel", "state", "[I", true)
  | 1 => ("OverflowRowsModel", "kept", "[I", true)
  | 2 => ("OverflowRowsModel", "before", "[I", true)
  | 3 => ("OverflowRowsModel", "history", "[I", true)
  | 4 => ("OverflowRowsModel", "recorded", "I", false)
  | 5 => ("OverflowRowsModel", "saved", "[I", true)
  | 6 => ("OverflowRowsModel", "isSaved", "[I", true)
  | 7 => ("OverflowRowsModel", "pad", "[I", true)
  | 8 => ("OverflowRowsModel", "padLength", "I", false)
  | 9 => ("OverflowRowsModel", "told", "[I", true)
  | 10 => ("OverflowRowsModel", "toldMany", "I", false)
  | 11 => ("OverflowRowsModel", "pieces", "[I", true)
  | _ => ("OverflowRowsModel", "piecesMany", "I", false)
def tyX5 : Nat → FieldType := fun k => match k with
  | 0 => .array .int
  | 1 => .array .int
  | 2 => .array .int
  | 3 => .array .int
  | 4 => .int
  | 5 => .array .int
  | 6 => .array .int
  | 7 => .array .int
  | 8 => .int
  | 9 => .array .int
  | 10 => .int
  | 11 => .array .int
  | _ => .int
abbrev wsX50 : List Cond := u_ws RX5 TX5 13
theorem nmX5 : ∀ a, a < 13 → ∀ b, b < 13 → a ≠ b → (TX5 a).2.1 ≠ (TX5 b).2.1 := by decide +kernel
theorem tyX5_ok : ∀ k, k < 13 → parseFieldDescriptor (TX5 k).2.2.1 = some (tyX5 k) := by decide +kernel
abbrev cX5_init : ByteArray := prog_8_method_1_code
def yX5_init : MethodName := ⟨RX5, "<init>", "()V"⟩
abbrev cX5_moves : ByteArray := prog_8_method_3_code
def yX5_moves : MethodName := ⟨RX5, "moves", "([II[II)V"⟩
abbrev cX5_within : ByteArray := prog_8_method_4_code
def yX5_within : MethodName := ⟨RX5, "within", "(III)Z"⟩
abbrev cX5_record : ByteArray := prog_8_method_5_code
def yX5_record : MethodName := ⟨RX5, "record", "([I)V"⟩
abbrev cX5_kindOf : ByteArray := prog_8_method_6_code
def yX5_kindOf : MethodName := ⟨RX5, "kindOf", "(I)I"⟩
abbrev cX5_rowOf : ByteArray := prog_8_method_7_code
def yX5_rowOf : MethodName := ⟨RX5, "rowOf", "(I)I"⟩
abbrev cX5_numberOf : ByteArray := prog_8_method_8_code
def yX5_numberOf : MethodName := ⟨RX5, "numberOf", "(I)I"⟩
abbrev cX5_lettersOf : ByteArray := prog_8_method_9_code
def yX5_lettersOf : MethodName := ⟨RX5, "lettersOf", "(I)I"⟩
abbrev cX5_thing : ByteArray := prog_8_method_10_code
def yX5_thing : MethodName := ⟨RX5, "thing", "(IIII)I"⟩
abbrev cX5_cellsOf : ByteArray := prog_8_method_11_code
def yX5_cellsOf : MethodName := ⟨RX5, "cellsOf", "(I)I"⟩
abbrev cX5_freeOf : ByteArray := prog_8_method_12_code
def yX5_freeOf : MethodName := ⟨RX5, "freeOf", "(I)I"⟩
abbrev cX5_slotsOf : ByteArray := prog_8_method_13_code
def yX5_slotsOf : MethodName := ⟨RX5, "slotsOf", "(I)I"⟩
abbrev cX5_thingsOn : ByteArray := prog_8_method_14_code
def yX5_thingsOn : MethodName := ⟨RX5, "thingsOn", "(II)I"⟩
abbrev cX5_lowestEmpty : ByteArray := prog_8_method_15_code
def yX5_lowestEmpty : MethodName := ⟨RX5, "lowestEmpty", "(I)I"⟩
abbrev cX5_placed : ByteArray := prog_8_method_16_code
def yX5_placed : MethodName := ⟨RX5, "placed", "(I)I"⟩
abbrev cX5_part : ByteArray := prog_8_method_17_code
def yX5_part : MethodName := ⟨RX5, "part", "(II)I"⟩
abbrev cX5_setPart : ByteArray := prog_8_method_18_code
def yX5_setPart : MethodName := ⟨RX5, "setPart", "(III)V"⟩
abbrev cX5_rowWith : ByteArray := prog_8_method_19_code
def yX5_rowWith : MethodName := ⟨RX5, "rowWith", "(I)I"⟩
abbrev cX5_letterAt : ByteArray := prog_8_method_20_code
def yX5_letterAt : MethodName := ⟨RX5, "letterAt", "(II)I"⟩
abbrev cX5_hasMoved : ByteArray := prog_8_method_21_code
def yX5_hasMoved : MethodName := ⟨RX5, "hasMoved", "(I)Z"⟩
abbrev cX5_findPieces : ByteArray := prog_8_method_22_code
def yX5_findPieces : MethodName := ⟨RX5, "findPieces", "(I)V"⟩
abbrev cX5_dropPieces : ByteArray := prog_8_method_23_code
def yX5_dropPieces : MethodName := ⟨RX5, "dropPieces", "(I)V"⟩
abbrev cX5_headOf : ByteArray := prog_8_method_24_code
def yX5_headOf : MethodName := ⟨RX5, "headOf", "(I)I"⟩
abbrev cX5_costOf : ByteArray := prog_8_method_25_code
def yX5_costOf : MethodName := ⟨RX5, "costOf", "(I)I"⟩
abbrev cX5_cellsOfRow : ByteArray := prog_8_method_26_code
def yX5_cellsOfRow : MethodName := ⟨RX5, "cellsOfRow", "(I)I"⟩
abbrev cX5_takeText : ByteArray := prog_8_method_27_code
def yX5_takeText : MethodName := ⟨RX5, "takeText", "(I)V"⟩
abbrev cX5_headLetters : ByteArray := prog_8_method_28_code
def yX5_headLetters : MethodName := ⟨RX5, "headLetters", "()I"⟩
abbrev cX5_setText : ByteArray := prog_8_method_29_code
def yX5_setText : MethodName := ⟨RX5, "setText", "(I)V"⟩
abbrev cX5_putPieces : ByteArray := prog_8_method_30_code
def yX5_putPieces : MethodName := ⟨RX5, "putPieces", "(I)Z"⟩
abbrev cX5_writeNew : ByteArray := prog_8_method_31_code
def yX5_writeNew : MethodName := ⟨RX5, "writeNew", "(I)Z"⟩
abbrev cX5_placeForHead : ByteArray := prog_8_method_32_code
def yX5_placeForHead : MethodName := ⟨RX5, "placeForHead", "(II)I"⟩
abbrev cX5_writeAgain : ByteArray := prog_8_method_33_code
def yX5_writeAgain : MethodName := ⟨RX5, "writeAgain", "(I)Z"⟩
abbrev cX5_freeRow : ByteArray := prog_8_method_34_code
def yX5_freeRow : MethodName := ⟨RX5, "freeRow", "()I"⟩
abbrev cX5_writes : ByteArray := prog_8_method_35_code
def yX5_writes : MethodName := ⟨RX5, "writes", "(I)Z"⟩
abbrev cX5_isValue : ByteArray := prog_8_method_36_code
def yX5_isValue : MethodName := ⟨RX5, "isValue", "(II)Z"⟩
abbrev cX5_set : ByteArray := prog_8_method_37_code
def yX5_set : MethodName := ⟨RX5, "set", "(II)I"⟩
abbrev cX5_write : ByteArray := prog_8_method_38_code
def yX5_write : MethodName := ⟨RX5, "write", "()I"⟩
abbrev cX5_append : ByteArray := prog_8_method_39_code
def yX5_append : MethodName := ⟨RX5, "append", "(II)I"⟩
abbrev cX5_delete : ByteArray := prog_8_method_40_code
def yX5_delete : MethodName := ⟨RX5, "delete", "(I)I"⟩
abbrev cX5_keyAt : ByteArray := prog_8_method_41_code
def yX5_keyAt : MethodName := ⟨RX5, "keyAt", "(I)I"⟩
abbrev cX5_packs : ByteArray := prog_8_method_42_code
def yX5_packs : MethodName := ⟨RX5, "packs", "()Z"⟩
abbrev cX5_pagesWith : ByteArray := prog_8_method_43_code
def yX5_pagesWith : MethodName := ⟨RX5, "pagesWith", "()I"⟩
abbrev cX5_pack : ByteArray := prog_8_method_44_code
def yX5_pack : MethodName := ⟨RX5, "pack", "()I"⟩
abbrev cX5_row : ByteArray := prog_8_method_45_code
def yX5_row : MethodName := ⟨RX5, "row", "(II)I"⟩
abbrev cX5_letter : ByteArray := prog_8_method_46_code
def yX5_letter : MethodName := ⟨RX5, "letter", "(II)I"⟩
abbrev cX5_piece : ByteArray := prog_8_method_47_code
def yX5_piece : MethodName := ⟨RX5, "piece", "(III)I"⟩
abbrev cX5_page : ByteArray := prog_8_method_48_code
def yX5_page : MethodName := ⟨RX5, "page", "(II)I"⟩
abbrev cX5_slot : ByteArray := prog_8_method_49_code
def yX5_slot : MethodName := ⟨RX5, "slot", "(III)I"⟩
abbrev cX5_thingsOf : ByteArray := prog_8_method_50_code
def yX5_thingsOf : MethodName := ⟨RX5, "thingsOf", "(I)I"⟩
abbrev cX5_allFree : ByteArray := prog_8_method_51_code
def yX5_allFree : MethodName := ⟨RX5, "allFree", "()I"⟩
abbrev cX5_sumOfCosts : ByteArray := prog_8_method_52_code
def yX5_sumOfCosts : MethodName := ⟨RX5, "sumOfCosts", "()I"⟩
abbrev cX5_greatestCost : ByteArray := prog_8_method_53_code
def yX5_greatestCost : MethodName := ⟨RX5, "greatestCost", "()I"⟩
abbrev cX5_allLetters : ByteArray := prog_8_method_54_code
def yX5_allLetters : MethodName := ⟨RX5, "allLetters", "()I"⟩
abbrev cX5_count : ByteArray := prog_8_method_55_code
def yX5_count : MethodName := ⟨RX5, "count", "(I)I"⟩
abbrev cX5_key : ByteArray := prog_8_method_56_code
def yX5_key : MethodName := ⟨RX5, "key", "(I)I"⟩
abbrev cX5_packedWith : ByteArray := prog_8_method_57_code
def yX5_packedWith : MethodName := ⟨RX5, "packedWith", "(II)I"⟩
abbrev cX5_ifPacked : ByteArray := prog_8_method_58_code
def yX5_ifPacked : MethodName := ⟨RX5, "ifPacked", "(II)I"⟩
abbrev cX5_bestHead : ByteArray := prog_8_method_59_code
def yX5_bestHead : MethodName := ⟨RX5, "bestHead", "()I"⟩
abbrev cX5_most : ByteArray := prog_8_method_60_code
def yX5_most : MethodName := ⟨RX5, "most", "(I)I"⟩
abbrev cX5_put : ByteArray := prog_8_method_61_code
def yX5_put : MethodName := ⟨RX5, "put", "(J)I"⟩
abbrev cX5_wipe : ByteArray := prog_8_method_62_code
def yX5_wipe : MethodName := ⟨RX5, "wipe", "()I"⟩
abbrev cX5_findFault : ByteArray := prog_8_method_63_code
def yX5_findFault : MethodName := ⟨RX5, "findFault", "()I"⟩
abbrev cX5_fault : ByteArray := prog_8_method_64_code
def yX5_fault : MethodName := ⟨RX5, "fault", "()I"⟩
abbrev cX5_undo : ByteArray := prog_8_method_65_code
def yX5_undo : MethodName := ⟨RX5, "undo", "()I"⟩
abbrev cX5_save : ByteArray := prog_8_method_66_code
def yX5_save : MethodName := ⟨RX5, "save", "(I)I"⟩
abbrev cX5_restore : ByteArray := prog_8_method_67_code
def yX5_restore : MethodName := ⟨RX5, "restore", "(I)I"⟩
def RJ9 : String := "java/lang/Math"
def TJ9 : u_T := fun k => match k with
  | _ => ("", "", "", false)
def tyJ9 : Nat → FieldType := fun k => match k with
  | _ => .int
abbrev wsJ90 : List Cond := u_ws RJ9 TJ9 0
theorem nmJ9 : ∀ a, a < 0 → ∀ b, b < 0 → a ≠ b → (TJ9 a).2.1 ≠ (TJ9 b).2.1 := by decide +kernel
theorem tyJ9_ok : ∀ k, k < 0 → parseFieldDescriptor (TJ9 k).2.2.1 = some (tyJ9 k) := by decide +kernel
abbrev cJ9_floorMod_7cf53 : ByteArray := prog_9_method_50_code
def yJ9_floorMod_7cf53 : MethodName := ⟨RJ9, "floorMod", "(II)I"⟩
abbrev cJ9_max_7cf53 : ByteArray := prog_9_method_65_code
def yJ9_max_7cf53 : MethodName := ⟨RJ9, "max", "(II)I"⟩
abbrev cJ9_min_7cf53 : ByteArray := prog_9_method_69_code
def yJ9_min_7cf53 : MethodName := ⟨RJ9, "min", "(II)I"⟩
def RJ10 : String := "java/lang/System"
def TJ10 : u_T := fun k => match k with
  | _ => ("", "", "", false)
def tyJ10 : Nat → FieldType := fun k => match k with
  | _ => .int
abbrev wsJ100 : List Cond := u_ws RJ10 TJ10 0
theorem nmJ10 : ∀ a, a < 0 → ∀ b, b < 0 → a ≠ b → (TJ10 a).2.1 ≠ (TJ10 b).2.1 := by decide +kernel
theorem tyJ10_ok : ∀ k, k < 0 → parseFieldDescriptor (TJ10 k).2.2.1 = some (tyJ10 k) := by decide +kernel
def RJ7 : String := "java/util/Arrays"
def TJ7 : u_T := fun k => match k with
  | _ => ("", "", "", false)
def tyJ7 : Nat → FieldType := fun k => match k with
  | _ => .int
abbrev wsJ70 : List Cond := u_ws RJ7 TJ7 0
theorem nmJ7 : ∀ a, a < 0 → ∀ b, b < 0 → a ≠ b → (TJ7 a).2.1 ≠ (TJ7 b).2.1 := by decide +kernel
theorem tyJ7_ok : ∀ k, k < 0 → parseFieldDescriptor (TJ7 k).2.2.1 = some (tyJ7 k) := by decide +kernel
abbrev cJ7_fill_53178 : ByteArray := prog_11_method_103_code
def yJ7_fill_53178 : MethodName := ⟨RJ7, "fill", "([II)V"⟩
def RL : String := "OverflowRowsLaw"
abbrev cL_law : ByteArray := code
def yL_law : MethodName := ⟨RL, "law", "([I)Z"⟩
theorem dX0_init_0 : decode cX0_init 0 = .ok (.aload_n 0, 1) := by decide +kernel
theorem dX0_init_1 : decode cX0_init 1 = .ok (.invokespecial 3, 3) := by decide +kernel
theorem dX0_init_4 : decode cX0_init 4 = .ok (.aload_n 0, 1) := by decide +kernel
theorem dX0_init_5 : decode cX0_init 5 = .ok (.bipush 6, 2) := by decide +kernel
theorem dX0_init_7 : decode cX0_init 7 = .ok (.putfield 9, 3) := by decide +kernel
theorem dX0_init_10 : decode cX0_init 10 = .ok (.aload_n 0, 1) := by decide +kernel
theorem dX0_init_11 : decode cX0_init 11 = .ok (.bipush 8, 2) := by decide +kernel
theorem dX0_init_13 : decode cX0_init 13 = .ok (.putfield 15, 3) := by decide +kernel
theorem dX0_init_16 : decode cX0_init 16 = .ok (.aload_n 0, 1) := by decide +kernel
theorem dX0_init_17 : decode cX0_init 17 = .ok (.iconst 0, 1) := by decide +kernel
theorem dX0_init_18 : decode cX0_init 18 = .ok (.putfield 18, 3) := by decide +kernel
theorem dX0_init_21 : decode cX0_init 21 = .ok (.aload_n 0, 1) := by decide +kernel
theorem dX0_init_22 : decode cX0_init 22 = .ok (.new 21, 3) := by decide +kernel
theorem dX0_init_25 : decode cX0_init 25 = .ok (.dup, 1) := by decide +kernel
theorem dX0_init_26 : decode cX0_init 26 = .ok (.invokespecial 23, 3) := by decide +kernel
theorem dX0_init_29 : decode cX0_init 29 = .ok (.putfield 24, 3) := by decide +kernel
theorem dX0_init_32 : decode cX0_init 32 = .ok (.aload_n 0, 1) := by decide +kernel
theorem dX0_init_33 : decode cX0_init 33 = .ok (.bipush 30, 2) := by decide +kernel
theorem dX0_init_35 : decode cX0_init 35 = .ok (.anewarray 28, 3) := by decide +kernel
theorem dX0_init_38 : decode cX0_init 38 = .ok (.putfield 30, 3) := by decide +kernel
theorem dX0_init_41 : decode cX0_init 41 = .ok (.aload_n 0, 1) := by decide +kernel
theorem dX0_init_42 : decode cX0_init 42 = .ok (.bipush 100, 2) := by decide +kernel
theorem dX0_init_44 : decode cX0_init 44 = .ok (.newarray .int, 2) := by decide +kernel
theorem dX0_init_46 : decode cX0_init 46 = .ok (.putfield 34, 3) := by decide +kernel
theorem dX0_init_49 : decode cX0_init 49 = .ok (.iconst 0, 1) := by decide +kernel
theorem dX0_init_50 : decode cX0_init 50 = .ok (.istore_n 1, 1) := by decide +kernel
theorem dX0_init_51 : decode cX0_init 51 = .ok (.iload_n 1, 1) := by decide +kernel
theorem dX0_init_52 : decode cX0_init 52 = .ok (.bipush 30, 2) := by decide +kernel
theorem dX0_init_54 : decode cX0_init 54 = .ok (.if_icmp .ge 22, 3) := by decide +kernel
theorem dX0_init_57 : decode cX0_init 57 = .ok (.aload_n 0, 1) := by decide +kernel
theorem dX0_init_58 : decode cX0_init 58 = .ok (.getfield 30, 3) := by decide +kernel
theorem dX0_init_61 : decode cX0_init 61 = .ok (.iload_n 1, 1) := by decide +kernel
theorem dX0_init_62 : decode cX0_init 62 = .ok (.new 28, 3) := by decide +kernel
theorem dX0_init_65 : decode cX0_init 65 = .ok (.dup, 1) := by decide +kernel
theorem dX0_init_66 : decode cX0_init 66 = .ok (.invokespecial 38, 3) := by decide +kernel
theorem dX0_init_69 : decode cX0_init 69 = .ok (.aastore, 1) := by decide +kernel
theorem dX0_init_70 : decode cX0_init 70 = .ok (.iinc 1 1, 3) := by decide +kernel
theorem dX0_init_73 : decode cX0_init 73 = .ok (.goto (-22), 3) := by decide +kernel
theorem dX0_init_76 : decode cX0_init 76 = .ok (.aload_n 0, 1) := by decide +kernel
theorem dX0_init_77 : decode cX0_init 77 = .ok (.getfield 34, 3) := by decide +kernel
theorem dX0_init_80 : decode cX0_init 80 = .ok (.iconst (-1), 1) := by decide +kernel
theorem dX0_init_81 : decode cX0_init 81 = .ok (.invokestatic 39, 3) := by decide +kernel
theorem dX0_init_84 : decode cX0_init 84 = .ok (.return_, 1) := by decide +kernel
theorem dX0_copyFrom_0 : decode cX0_copyFrom 0 = .ok (.aload_n 0, 1) := by decide +kernel
theorem dX0_copyFrom_1 : decode cX0_copyFrom 1 = .ok (.aload_n 1, 1) := by decide +kernel
theorem dX0_copyFrom_2 : decode cX0_copyFrom 2 = .ok (.getfield 9, 3) := by decide +kernel
theorem dX0_copyFrom_5 : decode cX0_copyFrom 5 = .ok (.putfield 9, 3) := by decide +kernel
theorem dX0_copyFrom_8 : decode cX0_copyFrom 8 = .ok (.aload_n 0, 1) := by decide +kernel
theorem dX0_copyFrom_9 : decode cX0_copyFrom 9 = .ok (.aload_n 1, 1) := by decide +kernel
theorem dX0_copyFrom_10 : decode cX0_copyFrom 10 = .ok (.getfield 15, 3) := by decide +kernel
theorem dX0_copyFrom_13 : decode cX0_copyFrom 13 = .ok (.putfield 15, 3) := by decide +kernel
theorem dX0_copyFrom_16 : decode cX0_copyFrom 16 = .ok (.aload_n 0, 1) := by decide +kernel
theorem dX0_copyFrom_17 : decode cX0_copyFrom 17 = .ok (.aload_n 1, 1) := by decide +kernel
theorem dX0_copyFrom_18 : decode cX0_copyFrom 18 = .ok (.getfield 18, 3) := by decide +kernel
theorem dX0_copyFrom_21 : decode cX0_copyFrom 21 = .ok (.putfield 18, 3) := by decide +kernel
theorem dX0_copyFrom_24 : decode cX0_copyFrom 24 = .ok (.aload_n 0, 1) := by decide +kernel
theorem dX0_copyFrom_25 : decode cX0_copyFrom 25 = .ok (.getfield 24, 3) := by decide +kernel
theorem dX0_copyFrom_28 : decode cX0_copyFrom 28 = .ok (.aload_n 1, 1) := by decide +kernel
theorem dX0_copyFrom_29 : decode cX0_copyFrom 29 = .ok (.getfield 24, 3) := by decide +kernel
theorem dX0_copyFrom_32 : decode cX0_copyFrom 32 = .ok (.invokevirtual 45, 3) := by decide +kernel
theorem dX0_copyFrom_35 : decode cX0_copyFrom 35 = .ok (.iconst 0, 1) := by decide +kernel
theorem dX0_copyFrom_36 : decode cX0_copyFrom 36 = .ok (.istore_n 2, 1) := by decide +kernel
theorem dX0_copyFrom_37 : decode cX0_copyFrom 37 = .ok (.iload_n 2, 1) := by decide +kernel
theorem dX0_copyFrom_38 : decode cX0_copyFrom 38 = .ok (.bipush 30, 2) := by decide +kernel
theorem dX0_copyFrom_40 : decode cX0_copyFrom 40 = .ok (.if_icmp .ge 39, 3) := by decide +kernel
theorem dX0_copyFrom_43 : decode cX0_copyFrom 43 = .ok (.aload_n 0, 1) := by decide +kernel
theorem dX0_copyFrom_44 : decode cX0_copyFrom 44 = .ok (.getfield 30, 3) := by decide +kernel
theorem dX0_copyFrom_47 : decode cX0_copyFrom 47 = .ok (.iload_n 2, 1) := by decide +kernel
theorem dX0_copyFrom_48 : decode cX0_copyFrom 48 = .ok (.aaload, 1) := by decide +kernel
theorem dX0_copyFrom_49 : decode cX0_copyFrom 49 = .ok (.astore_n 3, 1) := by decide +kernel
theorem dX0_copyFrom_50 : decode cX0_copyFrom 50 = .ok (.aload_n 1, 1) := by decide +kernel
theorem dX0_copyFrom_51 : decode cX0_copyFrom 51 = .ok (.getfield 30, 3) := by decide +kernel
theorem dX0_copyFrom_54 : decode cX0_copyFrom 54 = .ok (.iload_n 2, 1) := by decide +kernel
theorem dX0_copyFrom_55 : decode cX0_copyFrom 55 = .ok (.aaload, 1) := by decide +kernel
theorem dX0_copyFrom_56 : decode cX0_copyFrom 56 = .ok (.astore 4, 2) := by decide +kernel
theorem dX0_copyFrom_58 : decode cX0_copyFrom 58 = .ok (.aload_n 3, 1) := by decide +kernel
theorem dX0_copyFrom_59 : decode cX0_copyFrom 59 = .ok (.ifnull 14, 3) := by decide +kernel
theorem dX0_copyFrom_62 : decode cX0_copyFrom 62 = .ok (.aload 4, 2) := by decide +kernel
theorem dX0_copyFrom_64 : decode cX0_copyFrom 64 = .ok (.ifnull 9, 3) := by decide +kernel
theorem dX0_copyFrom_67 : decode cX0_copyFrom 67 = .ok (.aload_n 3, 1) := by decide +kernel
theorem dX0_copyFrom_68 : decode cX0_copyFrom 68 = .ok (.aload 4, 2) := by decide +kernel
theorem dX0_copyFrom_70 : decode cX0_copyFrom 70 = .ok (.invokevirtual 49, 3) := by decide +kernel
theorem dX0_copyFrom_73 : decode cX0_copyFrom 73 = .ok (.iinc 2 1, 3) := by decide +kernel
theorem dX0_copyFrom_76 : decode cX0_copyFrom 76 = .ok (.goto (-39), 3) := by decide +kernel
theorem dX0_copyFrom_79 : decode cX0_copyFrom 79 = .ok (.aload_n 1, 1) := by decide +kernel
theorem dX0_copyFrom_80 : decode cX0_copyFrom 80 = .ok (.getfield 34, 3) := by decide +kernel
theorem dX0_copyFrom_83 : decode cX0_copyFrom 83 = .ok (.iconst 0, 1) := by decide +kernel
theorem dX0_copyFrom_84 : decode cX0_copyFrom 84 = .ok (.aload_n 0, 1) := by decide +kernel
theorem dX0_copyFrom_85 : decode cX0_copyFrom 85 = .ok (.getfield 34, 3) := by decide +kernel
theorem dX0_copyFrom_88 : decode cX0_copyFrom 88 = .ok (.iconst 0, 1) := by decide +kernel
theorem dX0_copyFrom_89 : decode cX0_copyFrom 89 = .ok (.bipush 100, 2) := by decide +kernel
theorem dX0_copyFrom_91 : decode cX0_copyFrom 91 = .ok (.invokestatic 52, 3) := by decide +kernel
theorem dX0_copyFrom_94 : decode cX0_copyFrom 94 = .ok (.return_, 1) := by decide +kernel
theorem dX0_rowOf_0 : decode cX0_rowOf 0 = .ok (.aload_n 0, 1) := by decide +kernel
theorem dX0_rowOf_1 : decode cX0_rowOf 1 = .ok (.getfield 34, 3) := by decide +kernel
theorem dX0_rowOf_4 : decode cX0_rowOf 4 = .ok (.iload_n 1, 1) := by decide +kernel
theorem dX0_rowOf_5 : decode cX0_rowOf 5 = .ok (.invokestatic 58, 3) := by decide +kernel
theorem dX0_rowOf_8 : decode cX0_rowOf 8 = .ok (.istore_n 2, 1) := by decide +kernel
theorem dX0_rowOf_9 : decode cX0_rowOf 9 = .ok (.iload_n 2, 1) := by decide +kernel
theorem dX0_rowOf_10 : decode cX0_rowOf 10 = .ok (.ifCond .lt 9, 3) := by decide +kernel
theorem dX0_rowOf_13 : decode cX0_rowOf 13 = .ok (.iload_n 2, 1) := by decide +kernel
theorem dX0_rowOf_14 : decode cX0_rowOf 14 = .ok (.bipush 30, 2) := by decide +kernel
theorem dX0_rowOf_16 : decode cX0_rowOf 16 = .ok (.if_icmp .lt 7, 3) := by decide +kernel
theorem dX0_rowOf_19 : decode cX0_rowOf 19 = .ok (.aconst_null, 1) := by decide +kernel
theorem dX0_rowOf_20 : decode cX0_rowOf 20 = .ok (.goto 9, 3) := by decide +kernel
theorem dX0_rowOf_23 : decode cX0_rowOf 23 = .ok (.aload_n 0, 1) := by decide +kernel
theorem dX0_rowOf_24 : decode cX0_rowOf 24 = .ok (.getfield 30, 3) := by decide +kernel
theorem dX0_rowOf_27 : decode cX0_rowOf 27 = .ok (.iload_n 2, 1) := by decide +kernel
theorem dX0_rowOf_28 : decode cX0_rowOf 28 = .ok (.aaload, 1) := by decide +kernel
theorem dX0_rowOf_29 : decode cX0_rowOf 29 = .ok (.areturn, 1) := by decide +kernel
theorem dX0_layRow_0 : decode cX0_layRow 0 = .ok (.aload_n 0, 1) := by decide +kernel
theorem dX0_layRow_1 : decode cX0_layRow 1 = .ok (.iload_n 1, 1) := by decide +kernel
theorem dX0_layRow_2 : decode cX0_layRow 2 = .ok (.invokevirtual 62, 3) := by decide +kernel
theorem dX0_layRow_5 : decode cX0_layRow 5 = .ok (.astore_n 3, 1) := by decide +kernel
theorem dX0_layRow_6 : decode cX0_layRow 6 = .ok (.aload_n 3, 1) := by decide +kernel
theorem dX0_layRow_7 : decode cX0_layRow 7 = .ok (.ifnull 22, 3) := by decide +kernel
theorem dX0_layRow_10 : decode cX0_layRow 10 = .ok (.aload_n 3, 1) := by decide +kernel
theorem dX0_layRow_11 : decode cX0_layRow 11 = .ok (.iload_n 2, 1) := by decide +kernel
theorem dX0_layRow_12 : decode cX0_layRow 12 = .ok (.putfield 66, 3) := by decide +kernel
theorem dX0_layRow_15 : decode cX0_layRow 15 = .ok (.aload_n 0, 1) := by decide +kernel
theorem dX0_layRow_16 : decode cX0_layRow 16 = .ok (.aload_n 3, 1) := by decide +kernel
theorem dX0_layRow_17 : decode cX0_layRow 17 = .ok (.invokevirtual 69, 3) := by decide +kernel
theorem dX0_layRow_20 : decode cX0_layRow 20 = .ok (.ifCond .eq 7, 3) := by decide +kernel
theorem dX0_layRow_23 : decode cX0_layRow 23 = .ok (.aload_n 3, 1) := by decide +kernel
theorem dX0_layRow_24 : decode cX0_layRow 24 = .ok (.goto 4, 3) := by decide +kernel
theorem dX0_layRow_27 : decode cX0_layRow 27 = .ok (.aconst_null, 1) := by decide +kernel
theorem dX0_layRow_28 : decode cX0_layRow 28 = .ok (.areturn, 1) := by decide +kernel
theorem dX0_layRow_29 : decode cX0_layRow 29 = .ok (.aload_n 0, 1) := by decide +kernel
theorem dX0_layRow_30 : decode cX0_layRow 30 = .ok (.iload_n 1, 1) := by decide +kernel
theorem dX0_layRow_31 : decode cX0_layRow 31 = .ok (.invokevirtual 73, 3) := by decide +kernel
theorem dX0_layRow_34 : decode cX0_layRow 34 = .ok (.astore 4, 2) := by decide +kernel
theorem dX0_layRow_36 : decode cX0_layRow 36 = .ok (.aload 4, 2) := by decide +kernel
theorem dX0_layRow_38 : decode cX0_layRow 38 = .ok (.ifnonnull 5, 3) := by decide +kernel
theorem dX0_layRow_41 : decode cX0_layRow 41 = .ok (.aconst_null, 1) := by decide +kernel
theorem dX0_layRow_42 : decode cX0_layRow 42 = .ok (.areturn, 1) := by decide +kernel
theorem dX0_layRow_43 : decode cX0_layRow 43 = .ok (.aload 4, 2) := by decide +kernel
theorem dX0_layRow_45 : decode cX0_layRow 45 = .ok (.iload_n 2, 1) := by decide +kernel
theorem dX0_layRow_46 : decode cX0_layRow 46 = .ok (.putfield 66, 3) := by decide +kernel
theorem dX0_layRow_49 : decode cX0_layRow 49 = .ok (.aload_n 0, 1) := by decide +kernel
theorem dX0_layRow_50 : decode cX0_layRow 50 = .ok (.aload 4, 2) := by decide +kernel
theorem dX0_layRow_52 : decode cX0_layRow 52 = .ok (.invokevirtual 76, 3) := by decide +kernel
theorem dX0_layRow_55 : decode cX0_layRow 55 = .ok (.ifCond .eq 8, 3) := by decide +kernel
theorem dX0_layRow_58 : decode cX0_layRow 58 = .ok (.aload 4, 2) := by decide +kernel
theorem dX0_layRow_60 : decode cX0_layRow 60 = .ok (.goto 4, 3) := by decide +kernel
theorem dX0_layRow_63 : decode cX0_layRow 63 = .ok (.aconst_null, 1) := by decide +kernel
theorem dX0_layRow_64 : decode cX0_layRow 64 = .ok (.areturn, 1) := by decide +kernel
theorem dX0_addRow_0 : decode cX0_addRow 0 = .ok (.iconst 0, 1) := by decide +kernel
theorem dX0_addRow_1 : decode cX0_addRow 1 = .ok (.istore_n 2, 1) := by decide +kernel
theorem dX0_addRow_2 : decode cX0_addRow 2 = .ok (.iload_n 2, 1) := by decide +kernel
theorem dX0_addRow_3 : decode cX0_addRow 3 = .ok (.bipush 30, 2) := by decide +kernel
theorem dX0_addRow_5 : decode cX0_addRow 5 = .ok (.if_icmp .ge 54, 3) := by decide +kernel
theorem dX0_addRow_8 : decode cX0_addRow 8 = .ok (.aload_n 0, 1) := by decide +kernel
theorem dX0_addRow_9 : decode cX0_addRow 9 = .ok (.getfield 30, 3) := by decide +kernel
theorem dX0_addRow_12 : decode cX0_addRow 12 = .ok (.iload_n 2, 1) := by decide +kernel
theorem dX0_addRow_13 : decode cX0_addRow 13 = .ok (.aaload, 1) := by decide +kernel
theorem dX0_addRow_14 : decode cX0_addRow 14 = .ok (.astore_n 3, 1) := by decide +kernel
theorem dX0_addRow_15 : decode cX0_addRow 15 = .ok (.aload_n 3, 1) := by decide +kernel
theorem dX0_addRow_16 : decode cX0_addRow 16 = .ok (.ifnull 37, 3) := by decide +kernel
theorem dX0_addRow_19 : decode cX0_addRow 19 = .ok (.aload_n 3, 1) := by decide +kernel
theorem dX0_addRow_20 : decode cX0_addRow 20 = .ok (.getfield 79, 3) := by decide +kernel
theorem dX0_addRow_23 : decode cX0_addRow 23 = .ok (.iconst (-1), 1) := by decide +kernel
theorem dX0_addRow_24 : decode cX0_addRow 24 = .ok (.if_icmp .ne 29, 3) := by decide +kernel
theorem dX0_addRow_27 : decode cX0_addRow 27 = .ok (.aload_n 3, 1) := by decide +kernel
theorem dX0_addRow_28 : decode cX0_addRow 28 = .ok (.iload_n 1, 1) := by decide +kernel
theorem dX0_addRow_29 : decode cX0_addRow 29 = .ok (.putfield 79, 3) := by decide +kernel
theorem dX0_addRow_32 : decode cX0_addRow 32 = .ok (.aload_n 0, 1) := by decide +kernel
theorem dX0_addRow_33 : decode cX0_addRow 33 = .ok (.getfield 34, 3) := by decide +kernel
theorem dX0_addRow_36 : decode cX0_addRow 36 = .ok (.iload_n 1, 1) := by decide +kernel
theorem dX0_addRow_37 : decode cX0_addRow 37 = .ok (.iload_n 2, 1) := by decide +kernel
theorem dX0_addRow_38 : decode cX0_addRow 38 = .ok (.invokestatic 82, 3) := by decide +kernel
theorem dX0_addRow_41 : decode cX0_addRow 41 = .ok (.aload_n 0, 1) := by decide +kernel
theorem dX0_addRow_42 : decode cX0_addRow 42 = .ok (.dup, 1) := by decide +kernel
theorem dX0_addRow_43 : decode cX0_addRow 43 = .ok (.getfield 18, 3) := by decide +kernel
theorem dX0_addRow_46 : decode cX0_addRow 46 = .ok (.iconst 1, 1) := by decide +kernel
theorem dX0_addRow_47 : decode cX0_addRow 47 = .ok (.iadd, 1) := by decide +kernel
theorem dX0_addRow_48 : decode cX0_addRow 48 = .ok (.putfield 18, 3) := by decide +kernel
theorem dX0_addRow_51 : decode cX0_addRow 51 = .ok (.aload_n 3, 1) := by decide +kernel
theorem dX0_addRow_52 : decode cX0_addRow 52 = .ok (.areturn, 1) := by decide +kernel
theorem dX0_addRow_53 : decode cX0_addRow 53 = .ok (.iinc 2 1, 3) := by decide +kernel
theorem dX0_addRow_56 : decode cX0_addRow 56 = .ok (.goto (-54), 3) := by decide +kernel
theorem dX0_addRow_59 : decode cX0_addRow 59 = .ok (.aconst_null, 1) := by decide +kernel
theorem dX0_addRow_60 : decode cX0_addRow 60 = .ok (.areturn, 1) := by decide +kernel
theorem dX0_layNew_0 : decode cX0_layNew 0 = .ok (.aload_n 1, 1) := by decide +kernel
theorem dX0_layNew_1 : decode cX0_layNew 1 = .ok (.aload_n 0, 1) := by decide +kernel
theorem dX0_layNew_2 : decode cX0_layNew 2 = .ok (.getfield 24, 3) := by decide +kernel
theorem dX0_layNew_5 : decode cX0_layNew 5 = .ok (.iconst 1, 1) := by decide +kernel
theorem dX0_layNew_6 : decode cX0_layNew 6 = .ok (.aload_n 1, 1) := by decide +kernel
theorem dX0_layNew_7 : decode cX0_layNew 7 = .ok (.getfield 79, 3) := by decide +kernel
theorem dX0_layNew_10 : decode cX0_layNew 10 = .ok (.aload_n 0, 1) := by decide +kernel
theorem dX0_layNew_11 : decode cX0_layNew 11 = .ok (.aload_n 1, 1) := by decide +kernel
theorem dX0_layNew_12 : decode cX0_layNew 12 = .ok (.invokevirtual 86, 3) := by decide +kernel
theorem dX0_layNew_15 : decode cX0_layNew 15 = .ok (.invokevirtual 90, 3) := by decide +kernel
theorem dX0_layNew_18 : decode cX0_layNew 18 = .ok (.putfield 94, 3) := by decide +kernel
theorem dX0_layNew_21 : decode cX0_layNew 21 = .ok (.aload_n 1, 1) := by decide +kernel
theorem dX0_layNew_22 : decode cX0_layNew 22 = .ok (.aload_n 1, 1) := by decide +kernel
theorem dX0_layNew_23 : decode cX0_layNew 23 = .ok (.getfield 94, 3) := by decide +kernel
theorem dX0_layNew_26 : decode cX0_layNew 26 = .ok (.putfield 97, 3) := by decide +kernel
theorem dX0_layNew_29 : decode cX0_layNew 29 = .ok (.aload_n 1, 1) := by decide +kernel
theorem dX0_layNew_30 : decode cX0_layNew 30 = .ok (.getfield 97, 3) := by decide +kernel
theorem dX0_layNew_33 : decode cX0_layNew 33 = .ok (.iconst (-1), 1) := by decide +kernel
theorem dX0_layNew_34 : decode cX0_layNew 34 = .ok (.if_icmp .eq 15, 3) := by decide +kernel
theorem dX0_layNew_37 : decode cX0_layNew 37 = .ok (.aload_n 0, 1) := by decide +kernel
theorem dX0_layNew_38 : decode cX0_layNew 38 = .ok (.aload_n 1, 1) := by decide +kernel
theorem dX0_layNew_39 : decode cX0_layNew 39 = .ok (.invokevirtual 100, 3) := by decide +kernel
theorem dX0_layNew_42 : decode cX0_layNew 42 = .ok (.ifCond .eq 7, 3) := by decide +kernel
theorem dX0_layNew_45 : decode cX0_layNew 45 = .ok (.iconst 1, 1) := by decide +kernel
theorem dX0_layNew_46 : decode cX0_layNew 46 = .ok (.goto 4, 3) := by decide +kernel
theorem dX0_layNew_49 : decode cX0_layNew 49 = .ok (.iconst 0, 1) := by decide +kernel
theorem dX0_layNew_50 : decode cX0_layNew 50 = .ok (.ireturn, 1) := by decide +kernel
theorem dX0_layAgain_0 : decode cX0_layAgain 0 = .ok (.aload_n 0, 1) := by decide +kernel
theorem dX0_layAgain_1 : decode cX0_layAgain 1 = .ok (.aload_n 1, 1) := by decide +kernel
theorem dX0_layAgain_2 : decode cX0_layAgain 2 = .ok (.invokevirtual 103, 3) := by decide +kernel
theorem dX0_layAgain_5 : decode cX0_layAgain 5 = .ok (.aload_n 0, 1) := by decide +kernel
theorem dX0_layAgain_6 : decode cX0_layAgain 6 = .ok (.getfield 24, 3) := by decide +kernel
theorem dX0_layAgain_9 : decode cX0_layAgain 9 = .ok (.aload_n 1, 1) := by decide +kernel
theorem dX0_layAgain_10 : decode cX0_layAgain 10 = .ok (.getfield 97, 3) := by decide +kernel
theorem dX0_layAgain_13 : decode cX0_layAgain 13 = .ok (.invokevirtual 106, 3) := by decide +kernel
theorem dX0_layAgain_16 : decode cX0_layAgain 16 = .ok (.aload_n 1, 1) := by decide +kernel
theorem dX0_layAgain_17 : decode cX0_layAgain 17 = .ok (.aload_n 0, 1) := by decide +kernel
theorem dX0_layAgain_18 : decode cX0_layAgain 18 = .ok (.aload_n 1, 1) := by decide +kernel
theorem dX0_layAgain_19 : decode cX0_layAgain 19 = .ok (.invokevirtual 110, 3) := by decide +kernel
theorem dX0_layAgain_22 : decode cX0_layAgain 22 = .ok (.putfield 97, 3) := by decide +kernel
theorem dX0_layAgain_25 : decode cX0_layAgain 25 = .ok (.aload_n 1, 1) := by decide +kernel
theorem dX0_layAgain_26 : decode cX0_layAgain 26 = .ok (.getfield 97, 3) := by decide +kernel
theorem dX0_layAgain_29 : decode cX0_layAgain 29 = .ok (.iconst (-1), 1) := by decide +kernel
theorem dX0_layAgain_30 : decode cX0_layAgain 30 = .ok (.if_icmp .eq 15, 3) := by decide +kernel
theorem dX0_layAgain_33 : decode cX0_layAgain 33 = .ok (.aload_n 0, 1) := by decide +kernel
theorem dX0_layAgain_34 : decode cX0_layAgain 34 = .ok (.aload_n 1, 1) := by decide +kernel
theorem dX0_layAgain_35 : decode cX0_layAgain 35 = .ok (.invokevirtual 100, 3) := by decide +kernel
theorem dX0_layAgain_38 : decode cX0_layAgain 38 = .ok (.ifCond .eq 7, 3) := by decide +kernel
theorem dX0_layAgain_41 : decode cX0_layAgain 41 = .ok (.iconst 1, 1) := by decide +kernel
theorem dX0_layAgain_42 : decode cX0_layAgain 42 = .ok (.goto 4, 3) := by decide +kernel
theorem dX0_layAgain_45 : decode cX0_layAgain 45 = .ok (.iconst 0, 1) := by decide +kernel
theorem dX0_layAgain_46 : decode cX0_layAgain 46 = .ok (.ireturn, 1) := by decide +kernel
theorem dX0_layHeadAgain_0 : decode cX0_layHeadAgain 0 = .ok (.aload_n 0, 1) := by decide +kernel
theorem dX0_layHeadAgain_1 : decode cX0_layHeadAgain 1 = .ok (.aload_n 1, 1) := by decide +kernel
theorem dX0_layHeadAgain_2 : decode cX0_layHeadAgain 2 = .ok (.invokevirtual 86, 3) := by decide +kernel
theorem dX0_layHeadAgain_5 : decode cX0_layHeadAgain 5 = .ok (.istore_n 2, 1) := by decide +kernel
theorem dX0_layHeadAgain_6 : decode cX0_layHeadAgain 6 = .ok (.aload_n 0, 1) := by decide +kernel
theorem dX0_layHeadAgain_7 : decode cX0_layHeadAgain 7 = .ok (.getfield 24, 3) := by decide +kernel
theorem dX0_layHeadAgain_10 : decode cX0_layHeadAgain 10 = .ok (.aload_n 1, 1) := by decide +kernel
theorem dX0_layHeadAgain_11 : decode cX0_layHeadAgain 11 = .ok (.getfield 97, 3) := by decide +kernel
theorem dX0_layHeadAgain_14 : decode cX0_layHeadAgain 14 = .ok (.bipush 40, 2) := by decide +kernel
theorem dX0_layHeadAgain_16 : decode cX0_layHeadAgain 16 = .ok (.idiv, 1) := by decide +kernel
theorem dX0_layHeadAgain_17 : decode cX0_layHeadAgain 17 = .ok (.iload_n 2, 1) := by decide +kernel
theorem dX0_layHeadAgain_18 : decode cX0_layHeadAgain 18 = .ok (.invokevirtual 113, 3) := by decide +kernel
theorem dX0_layHeadAgain_21 : decode cX0_layHeadAgain 21 = .ok (.ifCond .eq 25, 3) := by decide +kernel
theorem dX0_layHeadAgain_24 : decode cX0_layHeadAgain 24 = .ok (.aload_n 0, 1) := by decide +kernel
theorem dX0_layHeadAgain_25 : decode cX0_layHeadAgain 25 = .ok (.getfield 24, 3) := by decide +kernel
theorem dX0_layHeadAgain_28 : decode cX0_layHeadAgain 28 = .ok (.aload_n 1, 1) := by decide +kernel
theorem dX0_layHeadAgain_29 : decode cX0_layHeadAgain 29 = .ok (.getfield 97, 3) := by decide +kernel
theorem dX0_layHeadAgain_32 : decode cX0_layHeadAgain 32 = .ok (.iconst 1, 1) := by decide +kernel
theorem dX0_layHeadAgain_33 : decode cX0_layHeadAgain 33 = .ok (.aload_n 1, 1) := by decide +kernel
theorem dX0_layHeadAgain_34 : decode cX0_layHeadAgain 34 = .ok (.getfield 79, 3) := by decide +kernel
theorem dX0_layHeadAgain_37 : decode cX0_layHeadAgain 37 = .ok (.iload_n 2, 1) := by decide +kernel
theorem dX0_layHeadAgain_38 : decode cX0_layHeadAgain 38 = .ok (.invokevirtual 117, 3) := by decide +kernel
theorem dX0_layHeadAgain_41 : decode cX0_layHeadAgain 41 = .ok (.aload_n 1, 1) := by decide +kernel
theorem dX0_layHeadAgain_42 : decode cX0_layHeadAgain 42 = .ok (.getfield 97, 3) := by decide +kernel
theorem dX0_layHeadAgain_45 : decode cX0_layHeadAgain 45 = .ok (.ireturn, 1) := by decide +kernel
theorem dX0_layHeadAgain_46 : decode cX0_layHeadAgain 46 = .ok (.aload_n 1, 1) := by decide +kernel
theorem dX0_layHeadAgain_47 : decode cX0_layHeadAgain 47 = .ok (.invokevirtual 121, 3) := by decide +kernel
theorem dX0_layHeadAgain_50 : decode cX0_layHeadAgain 50 = .ok (.ifCond .ne 34, 3) := by decide +kernel
theorem dX0_layHeadAgain_53 : decode cX0_layHeadAgain 53 = .ok (.aload_n 0, 1) := by decide +kernel
theorem dX0_layHeadAgain_54 : decode cX0_layHeadAgain 54 = .ok (.getfield 24, 3) := by decide +kernel
theorem dX0_layHeadAgain_57 : decode cX0_layHeadAgain 57 = .ok (.aload_n 1, 1) := by decide +kernel
theorem dX0_layHeadAgain_58 : decode cX0_layHeadAgain 58 = .ok (.getfield 94, 3) := by decide +kernel
theorem dX0_layHeadAgain_61 : decode cX0_layHeadAgain 61 = .ok (.iconst 3, 1) := by decide +kernel
theorem dX0_layHeadAgain_62 : decode cX0_layHeadAgain 62 = .ok (.aload_n 1, 1) := by decide +kernel
theorem dX0_layHeadAgain_63 : decode cX0_layHeadAgain 63 = .ok (.getfield 79, 3) := by decide +kernel
theorem dX0_layHeadAgain_66 : decode cX0_layHeadAgain 66 = .ok (.iconst 1, 1) := by decide +kernel
theorem dX0_layHeadAgain_67 : decode cX0_layHeadAgain 67 = .ok (.invokevirtual 117, 3) := by decide +kernel
theorem dX0_layHeadAgain_70 : decode cX0_layHeadAgain 70 = .ok (.aload_n 0, 1) := by decide +kernel
theorem dX0_layHeadAgain_71 : decode cX0_layHeadAgain 71 = .ok (.getfield 24, 3) := by decide +kernel
theorem dX0_layHeadAgain_74 : decode cX0_layHeadAgain 74 = .ok (.iconst 1, 1) := by decide +kernel
theorem dX0_layHeadAgain_75 : decode cX0_layHeadAgain 75 = .ok (.aload_n 1, 1) := by decide +kernel
theorem dX0_layHeadAgain_76 : decode cX0_layHeadAgain 76 = .ok (.getfield 79, 3) := by decide +kernel
theorem dX0_layHeadAgain_79 : decode cX0_layHeadAgain 79 = .ok (.iload_n 2, 1) := by decide +kernel
theorem dX0_layHeadAgain_80 : decode cX0_layHeadAgain 80 = .ok (.invokevirtual 90, 3) := by decide +kernel
theorem dX0_layHeadAgain_83 : decode cX0_layHeadAgain 83 = .ok (.ireturn, 1) := by decide +kernel
theorem dX0_layHeadAgain_84 : decode cX0_layHeadAgain 84 = .ok (.aload_n 0, 1) := by decide +kernel
theorem dX0_layHeadAgain_85 : decode cX0_layHeadAgain 85 = .ok (.getfield 24, 3) := by decide +kernel
theorem dX0_layHeadAgain_88 : decode cX0_layHeadAgain 88 = .ok (.aload_n 1, 1) := by decide +kernel
theorem dX0_layHeadAgain_89 : decode cX0_layHeadAgain 89 = .ok (.getfield 94, 3) := by decide +kernel
theorem dX0_layHeadAgain_92 : decode cX0_layHeadAgain 92 = .ok (.bipush 40, 2) := by decide +kernel
theorem dX0_layHeadAgain_94 : decode cX0_layHeadAgain 94 = .ok (.idiv, 1) := by decide +kernel
theorem dX0_layHeadAgain_95 : decode cX0_layHeadAgain 95 = .ok (.iload_n 2, 1) := by decide +kernel
theorem dX0_layHeadAgain_96 : decode cX0_layHeadAgain 96 = .ok (.iconst 1, 1) := by decide +kernel
theorem dX0_layHeadAgain_97 : decode cX0_layHeadAgain 97 = .ok (.isub, 1) := by decide +kernel
theorem dX0_layHeadAgain_98 : decode cX0_layHeadAgain 98 = .ok (.invokevirtual 113, 3) := by decide +kernel
theorem dX0_layHeadAgain_101 : decode cX0_layHeadAgain 101 = .ok (.ifCond .eq 36, 3) := by decide +kernel
theorem dX0_layHeadAgain_104 : decode cX0_layHeadAgain 104 = .ok (.aload_n 0, 1) := by decide +kernel
theorem dX0_layHeadAgain_105 : decode cX0_layHeadAgain 105 = .ok (.getfield 24, 3) := by decide +kernel
theorem dX0_layHeadAgain_108 : decode cX0_layHeadAgain 108 = .ok (.aload_n 1, 1) := by decide +kernel
theorem dX0_layHeadAgain_109 : decode cX0_layHeadAgain 109 = .ok (.getfield 94, 3) := by decide +kernel
theorem dX0_layHeadAgain_112 : decode cX0_layHeadAgain 112 = .ok (.invokevirtual 106, 3) := by decide +kernel
theorem dX0_layHeadAgain_115 : decode cX0_layHeadAgain 115 = .ok (.aload_n 0, 1) := by decide +kernel
theorem dX0_layHeadAgain_116 : decode cX0_layHeadAgain 116 = .ok (.getfield 24, 3) := by decide +kernel
theorem dX0_layHeadAgain_119 : decode cX0_layHeadAgain 119 = .ok (.aload_n 1, 1) := by decide +kernel
theorem dX0_layHeadAgain_120 : decode cX0_layHeadAgain 120 = .ok (.getfield 94, 3) := by decide +kernel
theorem dX0_layHeadAgain_123 : decode cX0_layHeadAgain 123 = .ok (.iconst 1, 1) := by decide +kernel
theorem dX0_layHeadAgain_124 : decode cX0_layHeadAgain 124 = .ok (.aload_n 1, 1) := by decide +kernel
theorem dX0_layHeadAgain_125 : decode cX0_layHeadAgain 125 = .ok (.getfield 79, 3) := by decide +kernel
theorem dX0_layHeadAgain_128 : decode cX0_layHeadAgain 128 = .ok (.iload_n 2, 1) := by decide +kernel
theorem dX0_layHeadAgain_129 : decode cX0_layHeadAgain 129 = .ok (.invokevirtual 117, 3) := by decide +kernel
theorem dX0_layHeadAgain_132 : decode cX0_layHeadAgain 132 = .ok (.aload_n 1, 1) := by decide +kernel
theorem dX0_layHeadAgain_133 : decode cX0_layHeadAgain 133 = .ok (.getfield 94, 3) := by decide +kernel
theorem dX0_layHeadAgain_136 : decode cX0_layHeadAgain 136 = .ok (.ireturn, 1) := by decide +kernel
theorem dX0_layHeadAgain_137 : decode cX0_layHeadAgain 137 = .ok (.aload_n 0, 1) := by decide +kernel
theorem dX0_layHeadAgain_138 : decode cX0_layHeadAgain 138 = .ok (.getfield 24, 3) := by decide +kernel
theorem dX0_layHeadAgain_141 : decode cX0_layHeadAgain 141 = .ok (.iconst 1, 1) := by decide +kernel
theorem dX0_layHeadAgain_142 : decode cX0_layHeadAgain 142 = .ok (.aload_n 1, 1) := by decide +kernel
theorem dX0_layHeadAgain_143 : decode cX0_layHeadAgain 143 = .ok (.getfield 79, 3) := by decide +kernel
theorem dX0_layHeadAgain_146 : decode cX0_layHeadAgain 146 = .ok (.iload_n 2, 1) := by decide +kernel
theorem dX0_layHeadAgain_147 : decode cX0_layHeadAgain 147 = .ok (.invokevirtual 90, 3) := by decide +kernel
theorem dX0_layHeadAgain_150 : decode cX0_layHeadAgain 150 = .ok (.ireturn, 1) := by decide +kernel
theorem dX0_layPieces_0 : decode cX0_layPieces 0 = .ok (.aload_n 1, 1) := by decide +kernel
theorem dX0_layPieces_1 : decode cX0_layPieces 1 = .ok (.getfield 66, 3) := by decide +kernel
theorem dX0_layPieces_4 : decode cX0_layPieces 4 = .ok (.aload_n 0, 1) := by decide +kernel
theorem dX0_layPieces_5 : decode cX0_layPieces 5 = .ok (.aload_n 1, 1) := by decide +kernel
theorem dX0_layPieces_6 : decode cX0_layPieces 6 = .ok (.invokevirtual 125, 3) := by decide +kernel
theorem dX0_layPieces_9 : decode cX0_layPieces 9 = .ok (.isub, 1) := by decide +kernel
theorem dX0_layPieces_10 : decode cX0_layPieces 10 = .ok (.istore_n 2, 1) := by decide +kernel
theorem dX0_layPieces_11 : decode cX0_layPieces 11 = .ok (.aload_n 1, 1) := by decide +kernel
theorem dX0_layPieces_12 : decode cX0_layPieces 12 = .ok (.iconst 0, 1) := by decide +kernel
theorem dX0_layPieces_13 : decode cX0_layPieces 13 = .ok (.putfield 128, 3) := by decide +kernel
theorem dX0_layPieces_16 : decode cX0_layPieces 16 = .ok (.iconst 0, 1) := by decide +kernel
theorem dX0_layPieces_17 : decode cX0_layPieces 17 = .ok (.istore_n 3, 1) := by decide +kernel
theorem dX0_layPieces_18 : decode cX0_layPieces 18 = .ok (.iload_n 3, 1) := by decide +kernel
theorem dX0_layPieces_19 : decode cX0_layPieces 19 = .ok (.bipush 40, 2) := by decide +kernel
theorem dX0_layPieces_21 : decode cX0_layPieces 21 = .ok (.if_icmp .ge 74, 3) := by decide +kernel
theorem dX0_layPieces_24 : decode cX0_layPieces 24 = .ok (.iload_n 2, 1) := by decide +kernel
theorem dX0_layPieces_25 : decode cX0_layPieces 25 = .ok (.ifCond .le 70, 3) := by decide +kernel
theorem dX0_layPieces_28 : decode cX0_layPieces 28 = .ok (.iload_n 2, 1) := by decide +kernel
theorem dX0_layPieces_29 : decode cX0_layPieces 29 = .ok (.aload_n 0, 1) := by decide +kernel
theorem dX0_layPieces_30 : decode cX0_layPieces 30 = .ok (.getfield 15, 3) := by decide +kernel
theorem dX0_layPieces_33 : decode cX0_layPieces 33 = .ok (.invokestatic 131, 3) := by decide +kernel
theorem dX0_layPieces_36 : decode cX0_layPieces 36 = .ok (.istore 4, 2) := by decide +kernel
theorem dX0_layPieces_38 : decode cX0_layPieces 38 = .ok (.aload_n 0, 1) := by decide +kernel
theorem dX0_layPieces_39 : decode cX0_layPieces 39 = .ok (.getfield 24, 3) := by decide +kernel
theorem dX0_layPieces_42 : decode cX0_layPieces 42 = .ok (.iconst 2, 1) := by decide +kernel
theorem dX0_layPieces_43 : decode cX0_layPieces 43 = .ok (.aload_n 1, 1) := by decide +kernel
theorem dX0_layPieces_44 : decode cX0_layPieces 44 = .ok (.getfield 79, 3) := by decide +kernel
theorem dX0_layPieces_47 : decode cX0_layPieces 47 = .ok (.iconst 1, 1) := by decide +kernel
theorem dX0_layPieces_48 : decode cX0_layPieces 48 = .ok (.iload 4, 2) := by decide +kernel
theorem dX0_layPieces_50 : decode cX0_layPieces 50 = .ok (.iadd, 1) := by decide +kernel
theorem dX0_layPieces_51 : decode cX0_layPieces 51 = .ok (.invokevirtual 90, 3) := by decide +kernel
theorem dX0_layPieces_54 : decode cX0_layPieces 54 = .ok (.istore 5, 2) := by decide +kernel
theorem dX0_layPieces_56 : decode cX0_layPieces 56 = .ok (.iload 5, 2) := by decide +kernel
theorem dX0_layPieces_58 : decode cX0_layPieces 58 = .ok (.iconst (-1), 1) := by decide +kernel
theorem dX0_layPieces_59 : decode cX0_layPieces 59 = .ok (.if_icmp .ne 5, 3) := by decide +kernel
theorem dX0_layPieces_62 : decode cX0_layPieces 62 = .ok (.iconst 0, 1) := by decide +kernel
theorem dX0_layPieces_63 : decode cX0_layPieces 63 = .ok (.ireturn, 1) := by decide +kernel
theorem dX0_layPieces_64 : decode cX0_layPieces 64 = .ok (.aload_n 1, 1) := by decide +kernel
theorem dX0_layPieces_65 : decode cX0_layPieces 65 = .ok (.getfield 137, 3) := by decide +kernel
theorem dX0_layPieces_68 : decode cX0_layPieces 68 = .ok (.iload_n 3, 1) := by decide +kernel
theorem dX0_layPieces_69 : decode cX0_layPieces 69 = .ok (.iload 5, 2) := by decide +kernel
theorem dX0_layPieces_71 : decode cX0_layPieces 71 = .ok (.invokestatic 82, 3) := by decide +kernel
theorem dX0_layPieces_74 : decode cX0_layPieces 74 = .ok (.aload_n 1, 1) := by decide +kernel
theorem dX0_layPieces_75 : decode cX0_layPieces 75 = .ok (.dup, 1) := by decide +kernel
theorem dX0_layPieces_76 : decode cX0_layPieces 76 = .ok (.getfield 128, 3) := by decide +kernel
theorem dX0_layPieces_79 : decode cX0_layPieces 79 = .ok (.iconst 1, 1) := by decide +kernel
theorem dX0_layPieces_80 : decode cX0_layPieces 80 = .ok (.iadd, 1) := by decide +kernel
theorem dX0_layPieces_81 : decode cX0_layPieces 81 = .ok (.putfield 128, 3) := by decide +kernel
theorem dX0_layPieces_84 : decode cX0_layPieces 84 = .ok (.iload_n 2, 1) := by decide +kernel
theorem dX0_layPieces_85 : decode cX0_layPieces 85 = .ok (.iload 4, 2) := by decide +kernel
theorem dX0_layPieces_87 : decode cX0_layPieces 87 = .ok (.isub, 1) := by decide +kernel
theorem dX0_layPieces_88 : decode cX0_layPieces 88 = .ok (.istore_n 2, 1) := by decide +kernel
theorem dX0_layPieces_89 : decode cX0_layPieces 89 = .ok (.iinc 3 1, 3) := by decide +kernel
theorem dX0_layPieces_92 : decode cX0_layPieces 92 = .ok (.goto (-74), 3) := by decide +kernel
theorem dX0_layPieces_95 : decode cX0_layPieces 95 = .ok (.iconst 1, 1) := by decide +kernel
theorem dX0_layPieces_96 : decode cX0_layPieces 96 = .ok (.ireturn, 1) := by decide +kernel
theorem dX0_liftPieces_0 : decode cX0_liftPieces 0 = .ok (.iconst 0, 1) := by decide +kernel
theorem dX0_liftPieces_1 : decode cX0_liftPieces 1 = .ok (.istore_n 2, 1) := by decide +kernel
theorem dX0_liftPieces_2 : decode cX0_liftPieces 2 = .ok (.iload_n 2, 1) := by decide +kernel
theorem dX0_liftPieces_3 : decode cX0_liftPieces 3 = .ok (.aload_n 1, 1) := by decide +kernel
theorem dX0_liftPieces_4 : decode cX0_liftPieces 4 = .ok (.getfield 128, 3) := by decide +kernel
theorem dX0_liftPieces_7 : decode cX0_liftPieces 7 = .ok (.if_icmp .ge 24, 3) := by decide +kernel
theorem dX0_liftPieces_10 : decode cX0_liftPieces 10 = .ok (.aload_n 0, 1) := by decide +kernel
theorem dX0_liftPieces_11 : decode cX0_liftPieces 11 = .ok (.getfield 24, 3) := by decide +kernel
theorem dX0_liftPieces_14 : decode cX0_liftPieces 14 = .ok (.aload_n 1, 1) := by decide +kernel
theorem dX0_liftPieces_15 : decode cX0_liftPieces 15 = .ok (.getfield 137, 3) := by decide +kernel
theorem dX0_liftPieces_18 : decode cX0_liftPieces 18 = .ok (.iload_n 2, 1) := by decide +kernel
theorem dX0_liftPieces_19 : decode cX0_liftPieces 19 = .ok (.invokestatic 58, 3) := by decide +kernel
theorem dX0_liftPieces_22 : decode cX0_liftPieces 22 = .ok (.invokevirtual 106, 3) := by decide +kernel
theorem dX0_liftPieces_25 : decode cX0_liftPieces 25 = .ok (.iinc 2 1, 3) := by decide +kernel
theorem dX0_liftPieces_28 : decode cX0_liftPieces 28 = .ok (.goto (-26), 3) := by decide +kernel
theorem dX0_liftPieces_31 : decode cX0_liftPieces 31 = .ok (.aload_n 1, 1) := by decide +kernel
theorem dX0_liftPieces_32 : decode cX0_liftPieces 32 = .ok (.iconst 0, 1) := by decide +kernel
theorem dX0_liftPieces_33 : decode cX0_liftPieces 33 = .ok (.putfield 128, 3) := by decide +kernel
theorem dX0_liftPieces_36 : decode cX0_liftPieces 36 = .ok (.return_, 1) := by decide +kernel
theorem dX0_headLetters_0 : decode cX0_headLetters 0 = .ok (.aload_n 1, 1) := by decide +kernel
theorem dX0_headLetters_1 : decode cX0_headLetters 1 = .ok (.getfield 66, 3) := by decide +kernel
theorem dX0_headLetters_4 : decode cX0_headLetters 4 = .ok (.aload_n 0, 1) := by decide +kernel
theorem dX0_headLetters_5 : decode cX0_headLetters 5 = .ok (.getfield 9, 3) := by decide +kernel
theorem dX0_headLetters_8 : decode cX0_headLetters 8 = .ok (.invokestatic 131, 3) := by decide +kernel
theorem dX0_headLetters_11 : decode cX0_headLetters 11 = .ok (.ireturn, 1) := by decide +kernel
theorem dX0_headCells_0 : decode cX0_headCells 0 = .ok (.iconst 2, 1) := by decide +kernel
theorem dX0_headCells_1 : decode cX0_headCells 1 = .ok (.aload_n 0, 1) := by decide +kernel
theorem dX0_headCells_2 : decode cX0_headCells 2 = .ok (.aload_n 1, 1) := by decide +kernel
theorem dX0_headCells_3 : decode cX0_headCells 3 = .ok (.invokevirtual 125, 3) := by decide +kernel
theorem dX0_headCells_6 : decode cX0_headCells 6 = .ok (.iadd, 1) := by decide +kernel
theorem dX0_headCells_7 : decode cX0_headCells 7 = .ok (.ireturn, 1) := by decide +kernel
theorem dX0_removeRow_0 : decode cX0_removeRow 0 = .ok (.aload_n 0, 1) := by decide +kernel
theorem dX0_removeRow_1 : decode cX0_removeRow 1 = .ok (.aload_n 1, 1) := by decide +kernel
theorem dX0_removeRow_2 : decode cX0_removeRow 2 = .ok (.invokevirtual 103, 3) := by decide +kernel
theorem dX0_removeRow_5 : decode cX0_removeRow 5 = .ok (.aload_n 0, 1) := by decide +kernel
theorem dX0_removeRow_6 : decode cX0_removeRow 6 = .ok (.getfield 24, 3) := by decide +kernel
theorem dX0_removeRow_9 : decode cX0_removeRow 9 = .ok (.aload_n 1, 1) := by decide +kernel
theorem dX0_removeRow_10 : decode cX0_removeRow 10 = .ok (.getfield 97, 3) := by decide +kernel
theorem dX0_removeRow_13 : decode cX0_removeRow 13 = .ok (.invokevirtual 106, 3) := by decide +kernel
theorem dX0_removeRow_16 : decode cX0_removeRow 16 = .ok (.aload_n 1, 1) := by decide +kernel
theorem dX0_removeRow_17 : decode cX0_removeRow 17 = .ok (.invokevirtual 121, 3) := by decide +kernel
theorem dX0_removeRow_20 : decode cX0_removeRow 20 = .ok (.ifCond .eq 14, 3) := by decide +kernel
theorem dX0_removeRow_23 : decode cX0_removeRow 23 = .ok (.aload_n 0, 1) := by decide +kernel
theorem dX0_removeRow_24 : decode cX0_removeRow 24 = .ok (.getfield 24, 3) := by decide +kernel
theorem dX0_removeRow_27 : decode cX0_removeRow 27 = .ok (.aload_n 1, 1) := by decide +kernel
theorem dX0_removeRow_28 : decode cX0_removeRow 28 = .ok (.getfield 94, 3) := by decide +kernel
theorem dX0_removeRow_31 : decode cX0_removeRow 31 = .ok (.invokevirtual 106, 3) := by decide +kernel
theorem dX0_removeRow_34 : decode cX0_removeRow 34 = .ok (.aload_n 0, 1) := by decide +kernel
theorem dX0_removeRow_35 : decode cX0_removeRow 35 = .ok (.getfield 34, 3) := by decide +kernel
theorem dX0_removeRow_38 : decode cX0_removeRow 38 = .ok (.aload_n 1, 1) := by decide +kernel
theorem dX0_removeRow_39 : decode cX0_removeRow 39 = .ok (.getfield 79, 3) := by decide +kernel
theorem dX0_removeRow_42 : decode cX0_removeRow 42 = .ok (.iconst (-1), 1) := by decide +kernel
theorem dX0_removeRow_43 : decode cX0_removeRow 43 = .ok (.invokestatic 82, 3) := by decide +kernel
theorem dX0_removeRow_46 : decode cX0_removeRow 46 = .ok (.aload_n 1, 1) := by decide +kernel
theorem dX0_removeRow_47 : decode cX0_removeRow 47 = .ok (.iconst (-1), 1) := by decide +kernel
theorem dX0_removeRow_48 : decode cX0_removeRow 48 = .ok (.putfield 79, 3) := by decide +kernel
theorem dX0_removeRow_51 : decode cX0_removeRow 51 = .ok (.aload_n 0, 1) := by decide +kernel
theorem dX0_removeRow_52 : decode cX0_removeRow 52 = .ok (.dup, 1) := by decide +kernel
theorem dX0_removeRow_53 : decode cX0_removeRow 53 = .ok (.getfield 18, 3) := by decide +kernel
theorem dX0_removeRow_56 : decode cX0_removeRow 56 = .ok (.iconst 1, 1) := by decide +kernel
theorem dX0_removeRow_57 : decode cX0_removeRow 57 = .ok (.isub, 1) := by decide +kernel
theorem dX0_removeRow_58 : decode cX0_removeRow 58 = .ok (.putfield 18, 3) := by decide +kernel
theorem dX0_removeRow_61 : decode cX0_removeRow 61 = .ok (.return_, 1) := by decide +kernel
theorem dX0_packAll_0 : decode cX0_packAll 0 = .ok (.aload_n 0, 1) := by decide +kernel
theorem dX0_packAll_1 : decode cX0_packAll 1 = .ok (.getfield 24, 3) := by decide +kernel
theorem dX0_packAll_4 : decode cX0_packAll 4 = .ok (.invokevirtual 140, 3) := by decide +kernel
theorem dX0_packAll_7 : decode cX0_packAll 7 = .ok (.iconst 0, 1) := by decide +kernel
theorem dX0_packAll_8 : decode cX0_packAll 8 = .ok (.istore_n 1, 1) := by decide +kernel
theorem dX0_packAll_9 : decode cX0_packAll 9 = .ok (.iload_n 1, 1) := by decide +kernel
theorem dX0_packAll_10 : decode cX0_packAll 10 = .ok (.bipush 100, 2) := by decide +kernel
theorem dX0_packAll_12 : decode cX0_packAll 12 = .ok (.if_icmp .ge 29, 3) := by decide +kernel
theorem dX0_packAll_15 : decode cX0_packAll 15 = .ok (.aload_n 0, 1) := by decide +kernel
theorem dX0_packAll_16 : decode cX0_packAll 16 = .ok (.iload_n 1, 1) := by decide +kernel
theorem dX0_packAll_17 : decode cX0_packAll 17 = .ok (.invokevirtual 62, 3) := by decide +kernel
theorem dX0_packAll_20 : decode cX0_packAll 20 = .ok (.astore_n 2, 1) := by decide +kernel
theorem dX0_packAll_21 : decode cX0_packAll 21 = .ok (.aload_n 2, 1) := by decide +kernel
theorem dX0_packAll_22 : decode cX0_packAll 22 = .ok (.ifnull 13, 3) := by decide +kernel
theorem dX0_packAll_25 : decode cX0_packAll 25 = .ok (.aload_n 0, 1) := by decide +kernel
theorem dX0_packAll_26 : decode cX0_packAll 26 = .ok (.aload_n 2, 1) := by decide +kernel
theorem dX0_packAll_27 : decode cX0_packAll 27 = .ok (.invokevirtual 76, 3) := by decide +kernel
theorem dX0_packAll_30 : decode cX0_packAll 30 = .ok (.ifCond .ne 5, 3) := by decide +kernel
theorem dX0_packAll_33 : decode cX0_packAll 33 = .ok (.iconst 0, 1) := by decide +kernel
theorem dX0_packAll_34 : decode cX0_packAll 34 = .ok (.ireturn, 1) := by decide +kernel
theorem dX0_packAll_35 : decode cX0_packAll 35 = .ok (.iinc 1 1, 3) := by decide +kernel
theorem dX0_packAll_38 : decode cX0_packAll 38 = .ok (.goto (-29), 3) := by decide +kernel
theorem dX0_packAll_41 : decode cX0_packAll 41 = .ok (.iconst 1, 1) := by decide +kernel
theorem dX0_packAll_42 : decode cX0_packAll 42 = .ok (.ireturn, 1) := by decide +kernel
theorem dX0_cellsOf_0 : decode cX0_cellsOf 0 = .ok (.aload_n 0, 1) := by decide +kernel
theorem dX0_cellsOf_1 : decode cX0_cellsOf 1 = .ok (.getfield 24, 3) := by decide +kernel
theorem dX0_cellsOf_4 : decode cX0_cellsOf 4 = .ok (.getfield 143, 3) := by decide +kernel
theorem dX0_cellsOf_7 : decode cX0_cellsOf 7 = .ok (.aload_n 1, 1) := by decide +kernel
theorem dX0_cellsOf_8 : decode cX0_cellsOf 8 = .ok (.getfield 97, 3) := by decide +kernel
theorem dX0_cellsOf_11 : decode cX0_cellsOf 11 = .ok (.invokestatic 58, 3) := by decide +kernel
theorem dX0_cellsOf_14 : decode cX0_cellsOf 14 = .ok (.istore_n 2, 1) := by decide +kernel
theorem dX0_cellsOf_15 : decode cX0_cellsOf 15 = .ok (.iconst 0, 1) := by decide +kernel
theorem dX0_cellsOf_16 : decode cX0_cellsOf 16 = .ok (.istore_n 3, 1) := by decide +kernel
theorem dX0_cellsOf_17 : decode cX0_cellsOf 17 = .ok (.iload_n 3, 1) := by decide +kernel
theorem dX0_cellsOf_18 : decode cX0_cellsOf 18 = .ok (.aload_n 1, 1) := by decide +kernel
theorem dX0_cellsOf_19 : decode cX0_cellsOf 19 = .ok (.getfield 128, 3) := by decide +kernel
theorem dX0_cellsOf_22 : decode cX0_cellsOf 22 = .ok (.if_icmp .ge 30, 3) := by decide +kernel
theorem dX0_cellsOf_25 : decode cX0_cellsOf 25 = .ok (.iload_n 2, 1) := by decide +kernel
theorem dX0_cellsOf_26 : decode cX0_cellsOf 26 = .ok (.aload_n 0, 1) := by decide +kernel
theorem dX0_cellsOf_27 : decode cX0_cellsOf 27 = .ok (.getfield 24, 3) := by decide +kernel
theorem dX0_cellsOf_30 : decode cX0_cellsOf 30 = .ok (.getfield 143, 3) := by decide +kernel
theorem dX0_cellsOf_33 : decode cX0_cellsOf 33 = .ok (.aload_n 1, 1) := by decide +kernel
theorem dX0_cellsOf_34 : decode cX0_cellsOf 34 = .ok (.getfield 137, 3) := by decide +kernel
theorem dX0_cellsOf_37 : decode cX0_cellsOf 37 = .ok (.iload_n 3, 1) := by decide +kernel
theorem dX0_cellsOf_38 : decode cX0_cellsOf 38 = .ok (.invokestatic 58, 3) := by decide +kernel
theorem dX0_cellsOf_41 : decode cX0_cellsOf 41 = .ok (.invokestatic 58, 3) := by decide +kernel
theorem dX0_cellsOf_44 : decode cX0_cellsOf 44 = .ok (.iadd, 1) := by decide +kernel
theorem dX0_cellsOf_45 : decode cX0_cellsOf 45 = .ok (.istore_n 2, 1) := by decide +kernel
theorem dX0_cellsOf_46 : decode cX0_cellsOf 46 = .ok (.iinc 3 1, 3) := by decide +kernel
theorem dX0_cellsOf_49 : decode cX0_cellsOf 49 = .ok (.goto (-32), 3) := by decide +kernel
theorem dX0_cellsOf_52 : decode cX0_cellsOf 52 = .ok (.aload_n 1, 1) := by decide +kernel
theorem dX0_cellsOf_53 : decode cX0_cellsOf 53 = .ok (.invokevirtual 121, 3) := by decide +kernel
theorem dX0_cellsOf_56 : decode cX0_cellsOf 56 = .ok (.ifCond .eq 9, 3) := by decide +kernel
theorem dX0_cellsOf_59 : decode cX0_cellsOf 59 = .ok (.iload_n 2, 1) := by decide +kernel
theorem dX0_cellsOf_60 : decode cX0_cellsOf 60 = .ok (.iconst 1, 1) := by decide +kernel
theorem dX0_cellsOf_61 : decode cX0_cellsOf 61 = .ok (.iadd, 1) := by decide +kernel
theorem dX0_cellsOf_62 : decode cX0_cellsOf 62 = .ok (.goto 4, 3) := by decide +kernel
theorem dX0_cellsOf_65 : decode cX0_cellsOf 65 = .ok (.iload_n 2, 1) := by decide +kernel
theorem dX0_cellsOf_66 : decode cX0_cellsOf 66 = .ok (.ireturn, 1) := by decide +kernel
theorem dX0_costInAll_0 : decode cX0_costInAll 0 = .ok (.iconst 0, 1) := by decide +kernel
theorem dX0_costInAll_1 : decode cX0_costInAll 1 = .ok (.istore_n 1, 1) := by decide +kernel
theorem dX0_costInAll_2 : decode cX0_costInAll 2 = .ok (.iconst 0, 1) := by decide +kernel
theorem dX0_costInAll_3 : decode cX0_costInAll 3 = .ok (.istore_n 2, 1) := by decide +kernel
theorem dX0_costInAll_4 : decode cX0_costInAll 4 = .ok (.iload_n 2, 1) := by decide +kernel
theorem dX0_costInAll_5 : decode cX0_costInAll 5 = .ok (.bipush 100, 2) := by decide +kernel
theorem dX0_costInAll_7 : decode cX0_costInAll 7 = .ok (.if_icmp .ge 26, 3) := by decide +kernel
theorem dX0_costInAll_10 : decode cX0_costInAll 10 = .ok (.aload_n 0, 1) := by decide +kernel
theorem dX0_costInAll_11 : decode cX0_costInAll 11 = .ok (.iload_n 2, 1) := by decide +kernel
theorem dX0_costInAll_12 : decode cX0_costInAll 12 = .ok (.invokevirtual 62, 3) := by decide +kernel
theorem dX0_costInAll_15 : decode cX0_costInAll 15 = .ok (.astore_n 3, 1) := by decide +kernel
theorem dX0_costInAll_16 : decode cX0_costInAll 16 = .ok (.aload_n 3, 1) := by decide +kernel
theorem dX0_costInAll_17 : decode cX0_costInAll 17 = .ok (.ifnull 10, 3) := by decide +kernel
theorem dX0_costInAll_20 : decode cX0_costInAll 20 = .ok (.iload_n 1, 1) := by decide +kernel
theorem dX0_costInAll_21 : decode cX0_costInAll 21 = .ok (.aload_n 3, 1) := by decide +kernel
theorem dX0_costInAll_22 : decode cX0_costInAll 22 = .ok (.invokevirtual 146, 3) := by decide +kernel
theorem dX0_costInAll_25 : decode cX0_costInAll 25 = .ok (.iadd, 1) := by decide +kernel
theorem dX0_costInAll_26 : decode cX0_costInAll 26 = .ok (.istore_n 1, 1) := by decide +kernel
theorem dX0_costInAll_27 : decode cX0_costInAll 27 = .ok (.iinc 2 1, 3) := by decide +kernel
theorem dX0_costInAll_30 : decode cX0_costInAll 30 = .ok (.goto (-26), 3) := by decide +kernel
theorem dX0_costInAll_33 : decode cX0_costInAll 33 = .ok (.iload_n 1, 1) := by decide +kernel
theorem dX0_costInAll_34 : decode cX0_costInAll 34 = .ok (.ireturn, 1) := by decide +kernel
theorem dX0_greatestCost_0 : decode cX0_greatestCost 0 = .ok (.iconst 0, 1) := by decide +kernel
theorem dX0_greatestCost_1 : decode cX0_greatestCost 1 = .ok (.istore_n 1, 1) := by decide +kernel
theorem dX0_greatestCost_2 : decode cX0_greatestCost 2 = .ok (.iconst 0, 1) := by decide +kernel
theorem dX0_greatestCost_3 : decode cX0_greatestCost 3 = .ok (.istore_n 2, 1) := by decide +kernel
theorem dX0_greatestCost_4 : decode cX0_greatestCost 4 = .ok (.iload_n 2, 1) := by decide +kernel
theorem dX0_greatestCost_5 : decode cX0_greatestCost 5 = .ok (.bipush 100, 2) := by decide +kernel
theorem dX0_greatestCost_7 : decode cX0_greatestCost 7 = .ok (.if_icmp .ge 28, 3) := by decide +kernel
theorem dX0_greatestCost_10 : decode cX0_greatestCost 10 = .ok (.aload_n 0, 1) := by decide +kernel
theorem dX0_greatestCost_11 : decode cX0_greatestCost 11 = .ok (.iload_n 2, 1) := by decide +kernel
theorem dX0_greatestCost_12 : decode cX0_greatestCost 12 = .ok (.invokevirtual 62, 3) := by decide +kernel
theorem dX0_greatestCost_15 : decode cX0_greatestCost 15 = .ok (.astore_n 3, 1) := by decide +kernel
theorem dX0_greatestCost_16 : decode cX0_greatestCost 16 = .ok (.aload_n 3, 1) := by decide +kernel
theorem dX0_greatestCost_17 : decode cX0_greatestCost 17 = .ok (.ifnull 12, 3) := by decide +kernel
theorem dX0_greatestCost_20 : decode cX0_greatestCost 20 = .ok (.iload_n 1, 1) := by decide +kernel
theorem dX0_greatestCost_21 : decode cX0_greatestCost 21 = .ok (.aload_n 3, 1) := by decide +kernel
theorem dX0_greatestCost_22 : decode cX0_greatestCost 22 = .ok (.invokevirtual 146, 3) := by decide +kernel
theorem dX0_greatestCost_25 : decode cX0_greatestCost 25 = .ok (.invokestatic 150, 3) := by decide +kernel
theorem dX0_greatestCost_28 : decode cX0_greatestCost 28 = .ok (.istore_n 1, 1) := by decide +kernel
theorem dX0_greatestCost_29 : decode cX0_greatestCost 29 = .ok (.iinc 2 1, 3) := by decide +kernel
theorem dX0_greatestCost_32 : decode cX0_greatestCost 32 = .ok (.goto (-28), 3) := by decide +kernel
theorem dX0_greatestCost_35 : decode cX0_greatestCost 35 = .ok (.iload_n 1, 1) := by decide +kernel
theorem dX0_greatestCost_36 : decode cX0_greatestCost 36 = .ok (.ireturn, 1) := by decide +kernel
theorem dX0_lettersInAll_0 : decode cX0_lettersInAll 0 = .ok (.iconst 0, 1) := by decide +kernel
theorem dX0_lettersInAll_1 : decode cX0_lettersInAll 1 = .ok (.istore_n 1, 1) := by decide +kernel
theorem dX0_lettersInAll_2 : decode cX0_lettersInAll 2 = .ok (.iconst 0, 1) := by decide +kernel
theorem dX0_lettersInAll_3 : decode cX0_lettersInAll 3 = .ok (.istore_n 2, 1) := by decide +kernel
theorem dX0_lettersInAll_4 : decode cX0_lettersInAll 4 = .ok (.iload_n 2, 1) := by decide +kernel
theorem dX0_lettersInAll_5 : decode cX0_lettersInAll 5 = .ok (.bipush 100, 2) := by decide +kernel
theorem dX0_lettersInAll_7 : decode cX0_lettersInAll 7 = .ok (.if_icmp .ge 26, 3) := by decide +kernel
theorem dX0_lettersInAll_10 : decode cX0_lettersInAll 10 = .ok (.aload_n 0, 1) := by decide +kernel
theorem dX0_lettersInAll_11 : decode cX0_lettersInAll 11 = .ok (.iload_n 2, 1) := by decide +kernel
theorem dX0_lettersInAll_12 : decode cX0_lettersInAll 12 = .ok (.invokevirtual 62, 3) := by decide +kernel
theorem dX0_lettersInAll_15 : decode cX0_lettersInAll 15 = .ok (.astore_n 3, 1) := by decide +kernel
theorem dX0_lettersInAll_16 : decode cX0_lettersInAll 16 = .ok (.aload_n 3, 1) := by decide +kernel
theorem dX0_lettersInAll_17 : decode cX0_lettersInAll 17 = .ok (.ifnull 10, 3) := by decide +kernel
theorem dX0_lettersInAll_20 : decode cX0_lettersInAll 20 = .ok (.iload_n 1, 1) := by decide +kernel
theorem dX0_lettersInAll_21 : decode cX0_lettersInAll 21 = .ok (.aload_n 3, 1) := by decide +kernel
theorem dX0_lettersInAll_22 : decode cX0_lettersInAll 22 = .ok (.getfield 66, 3) := by decide +kernel
theorem dX0_lettersInAll_25 : decode cX0_lettersInAll 25 = .ok (.iadd, 1) := by decide +kernel
theorem dX0_lettersInAll_26 : decode cX0_lettersInAll 26 = .ok (.istore_n 1, 1) := by decide +kernel
theorem dX0_lettersInAll_27 : decode cX0_lettersInAll 27 = .ok (.iinc 2 1, 3) := by decide +kernel
theorem dX0_lettersInAll_30 : decode cX0_lettersInAll 30 = .ok (.goto (-26), 3) := by decide +kernel
theorem dX0_lettersInAll_33 : decode cX0_lettersInAll 33 = .ok (.iload_n 1, 1) := by decide +kernel
theorem dX0_lettersInAll_34 : decode cX0_lettersInAll 34 = .ok (.ireturn, 1) := by decide +kernel
theorem dX1_init_0 : decode cX1_init 0 = .ok (.aload_n 0, 1) := by decide +kernel
theorem dX1_init_1 : decode cX1_init 1 = .ok (.invokespecial 3, 3) := by decide +kernel
theorem dX1_init_4 : decode cX1_init 4 = .ok (.aload_n 0, 1) := by decide +kernel
theorem dX1_init_5 : decode cX1_init 5 = .ok (.bipush 6, 2) := by decide +kernel
theorem dX1_init_7 : decode cX1_init 7 = .ok (.anewarray 9, 3) := by decide +kernel
theorem dX1_init_10 : decode cX1_init 10 = .ok (.putfield 11, 3) := by decide +kernel
theorem dX1_init_13 : decode cX1_init 13 = .ok (.aload_n 0, 1) := by decide +kernel
theorem dX1_init_14 : decode cX1_init 14 = .ok (.iconst 0, 1) := by decide +kernel
theorem dX1_init_15 : decode cX1_init 15 = .ok (.putfield 17, 3) := by decide +kernel
theorem dX1_init_18 : decode cX1_init 18 = .ok (.aload_n 0, 1) := by decide +kernel
theorem dX1_init_19 : decode cX1_init 19 = .ok (.iconst 0, 1) := by decide +kernel
theorem dX1_init_20 : decode cX1_init 20 = .ok (.putfield 21, 3) := by decide +kernel
theorem dX1_init_23 : decode cX1_init 23 = .ok (.return_, 1) := by decide +kernel
theorem dX1_record_0 : decode cX1_record 0 = .ok (.aload_n 0, 1) := by decide +kernel
theorem dX1_record_1 : decode cX1_record 1 = .ok (.getfield 21, 3) := by decide +kernel
theorem dX1_record_4 : decode cX1_record 4 = .ok (.aload_n 0, 1) := by decide +kernel
theorem dX1_record_5 : decode cX1_record 5 = .ok (.getfield 17, 3) := by decide +kernel
theorem dX1_record_8 : decode cX1_record 8 = .ok (.iadd, 1) := by decide +kernel
theorem dX1_record_9 : decode cX1_record 9 = .ok (.bipush 6, 2) := by decide +kernel
theorem dX1_record_11 : decode cX1_record 11 = .ok (.invokestatic 24, 3) := by decide +kernel
theorem dX1_record_14 : decode cX1_record 14 = .ok (.istore_n 2, 1) := by decide +kernel
theorem dX1_record_15 : decode cX1_record 15 = .ok (.aload_n 0, 1) := by decide +kernel
theorem dX1_record_16 : decode cX1_record 16 = .ok (.getfield 11, 3) := by decide +kernel
theorem dX1_record_19 : decode cX1_record 19 = .ok (.iload_n 2, 1) := by decide +kernel
theorem dX1_record_20 : decode cX1_record 20 = .ok (.aaload, 1) := by decide +kernel
theorem dX1_record_21 : decode cX1_record 21 = .ok (.ifnonnull 16, 3) := by decide +kernel
theorem dX1_record_24 : decode cX1_record 24 = .ok (.aload_n 0, 1) := by decide +kernel
theorem dX1_record_25 : decode cX1_record 25 = .ok (.getfield 11, 3) := by decide +kernel
theorem dX1_record_28 : decode cX1_record 28 = .ok (.iload_n 2, 1) := by decide +kernel
theorem dX1_record_29 : decode cX1_record 29 = .ok (.new 9, 3) := by decide +kernel
theorem dX1_record_32 : decode cX1_record 32 = .ok (.dup, 1) := by decide +kernel
theorem dX1_record_33 : decode cX1_record 33 = .ok (.invokespecial 30, 3) := by decide +kernel
theorem dX1_record_36 : decode cX1_record 36 = .ok (.aastore, 1) := by decide +kernel
theorem dX1_record_37 : decode cX1_record 37 = .ok (.aload_n 0, 1) := by decide +kernel
theorem dX1_record_38 : decode cX1_record 38 = .ok (.getfield 11, 3) := by decide +kernel
theorem dX1_record_41 : decode cX1_record 41 = .ok (.iload_n 2, 1) := by decide +kernel
theorem dX1_record_42 : decode cX1_record 42 = .ok (.aaload, 1) := by decide +kernel
theorem dX1_record_43 : decode cX1_record 43 = .ok (.aload_n 1, 1) := by decide +kernel
theorem dX1_record_44 : decode cX1_record 44 = .ok (.invokevirtual 31, 3) := by decide +kernel
theorem dX1_record_47 : decode cX1_record 47 = .ok (.aload_n 0, 1) := by decide +kernel
theorem dX1_record_48 : decode cX1_record 48 = .ok (.getfield 17, 3) := by decide +kernel
theorem dX1_record_51 : decode cX1_record 51 = .ok (.bipush 6, 2) := by decide +kernel
theorem dX1_record_53 : decode cX1_record 53 = .ok (.if_icmp .ge 16, 3) := by decide +kernel
theorem dX1_record_56 : decode cX1_record 56 = .ok (.aload_n 0, 1) := by decide +kernel
theorem dX1_record_57 : decode cX1_record 57 = .ok (.dup, 1) := by decide +kernel
theorem dX1_record_58 : decode cX1_record 58 = .ok (.getfield 17, 3) := by decide +kernel
theorem dX1_record_61 : decode cX1_record 61 = .ok (.iconst 1, 1) := by decide +kernel
theorem dX1_record_62 : decode cX1_record 62 = .ok (.iadd, 1) := by decide +kernel
theorem dX1_record_63 : decode cX1_record 63 = .ok (.putfield 17, 3) := by decide +kernel
theorem dX1_record_66 : decode cX1_record 66 = .ok (.goto 16, 3) := by decide +kernel
theorem dX1_record_69 : decode cX1_record 69 = .ok (.aload_n 0, 1) := by decide +kernel
theorem dX1_record_70 : decode cX1_record 70 = .ok (.aload_n 0, 1) := by decide +kernel
theorem dX1_record_71 : decode cX1_record 71 = .ok (.getfield 21, 3) := by decide +kernel
theorem dX1_record_74 : decode cX1_record 74 = .ok (.iconst 1, 1) := by decide +kernel
theorem dX1_record_75 : decode cX1_record 75 = .ok (.iadd, 1) := by decide +kernel
theorem dX1_record_76 : decode cX1_record 76 = .ok (.bipush 6, 2) := by decide +kernel
theorem dX1_record_78 : decode cX1_record 78 = .ok (.irem, 1) := by decide +kernel
theorem dX1_record_79 : decode cX1_record 79 = .ok (.putfield 21, 3) := by decide +kernel
theorem dX1_record_82 : decode cX1_record 82 = .ok (.return_, 1) := by decide +kernel
theorem dX1_giveBack_0 : decode cX1_giveBack 0 = .ok (.aload_n 0, 1) := by decide +kernel
theorem dX1_giveBack_1 : decode cX1_giveBack 1 = .ok (.getfield 21, 3) := by decide +kernel
theorem dX1_giveBack_4 : decode cX1_giveBack 4 = .ok (.aload_n 0, 1) := by decide +kernel
theorem dX1_giveBack_5 : decode cX1_giveBack 5 = .ok (.getfield 17, 3) := by decide +kernel
theorem dX1_giveBack_8 : decode cX1_giveBack 8 = .ok (.iadd, 1) := by decide +kernel
theorem dX1_giveBack_9 : decode cX1_giveBack 9 = .ok (.iconst 1, 1) := by decide +kernel
theorem dX1_giveBack_10 : decode cX1_giveBack 10 = .ok (.isub, 1) := by decide +kernel
theorem dX1_giveBack_11 : decode cX1_giveBack 11 = .ok (.bipush 6, 2) := by decide +kernel
theorem dX1_giveBack_13 : decode cX1_giveBack 13 = .ok (.invokestatic 24, 3) := by decide +kernel
theorem dX1_giveBack_16 : decode cX1_giveBack 16 = .ok (.istore_n 2, 1) := by decide +kernel
theorem dX1_giveBack_17 : decode cX1_giveBack 17 = .ok (.aload_n 0, 1) := by decide +kernel
theorem dX1_giveBack_18 : decode cX1_giveBack 18 = .ok (.getfield 17, 3) := by decide +kernel
theorem dX1_giveBack_21 : decode cX1_giveBack 21 = .ok (.ifCond .le 32, 3) := by decide +kernel
theorem dX1_giveBack_24 : decode cX1_giveBack 24 = .ok (.aload_n 0, 1) := by decide +kernel
theorem dX1_giveBack_25 : decode cX1_giveBack 25 = .ok (.getfield 11, 3) := by decide +kernel
theorem dX1_giveBack_28 : decode cX1_giveBack 28 = .ok (.iload_n 2, 1) := by decide +kernel
theorem dX1_giveBack_29 : decode cX1_giveBack 29 = .ok (.aaload, 1) := by decide +kernel
theorem dX1_giveBack_30 : decode cX1_giveBack 30 = .ok (.ifnull 23, 3) := by decide +kernel
theorem dX1_giveBack_33 : decode cX1_giveBack 33 = .ok (.aload_n 1, 1) := by decide +kernel
theorem dX1_giveBack_34 : decode cX1_giveBack 34 = .ok (.aload_n 0, 1) := by decide +kernel
theorem dX1_giveBack_35 : decode cX1_giveBack 35 = .ok (.getfield 11, 3) := by decide +kernel
theorem dX1_giveBack_38 : decode cX1_giveBack 38 = .ok (.iload_n 2, 1) := by decide +kernel
theorem dX1_giveBack_39 : decode cX1_giveBack 39 = .ok (.aaload, 1) := by decide +kernel
theorem dX1_giveBack_40 : decode cX1_giveBack 40 = .ok (.invokevirtual 31, 3) := by decide +kernel
theorem dX1_giveBack_43 : decode cX1_giveBack 43 = .ok (.aload_n 0, 1) := by decide +kernel
theorem dX1_giveBack_44 : decode cX1_giveBack 44 = .ok (.dup, 1) := by decide +kernel
theorem dX1_giveBack_45 : decode cX1_giveBack 45 = .ok (.getfield 17, 3) := by decide +kernel
theorem dX1_giveBack_48 : decode cX1_giveBack 48 = .ok (.iconst 1, 1) := by decide +kernel
theorem dX1_giveBack_49 : decode cX1_giveBack 49 = .ok (.isub, 1) := by decide +kernel
theorem dX1_giveBack_50 : decode cX1_giveBack 50 = .ok (.putfield 17, 3) := by decide +kernel
theorem dX1_giveBack_53 : decode cX1_giveBack 53 = .ok (.return_, 1) := by decide +kernel
theorem dX2_init_0 : decode cX2_init 0 = .ok (.aload_n 0, 1) := by decide +kernel
theorem dX2_init_1 : decode cX2_init 1 = .ok (.invokespecial 3, 3) := by decide +kernel
theorem dX2_init_4 : decode cX2_init 4 = .ok (.aload_n 0, 1) := by decide +kernel
theorem dX2_init_5 : decode cX2_init 5 = .ok (.bipush 80, 2) := by decide +kernel
theorem dX2_init_7 : decode cX2_init 7 = .ok (.newarray .int, 2) := by decide +kernel
theorem dX2_init_9 : decode cX2_init 9 = .ok (.putfield 9, 3) := by decide +kernel
theorem dX2_init_12 : decode cX2_init 12 = .ok (.aload_n 0, 1) := by decide +kernel
theorem dX2_init_13 : decode cX2_init 13 = .ok (.iconst 0, 1) := by decide +kernel
theorem dX2_init_14 : decode cX2_init 14 = .ok (.putfield 15, 3) := by decide +kernel
theorem dX2_init_17 : decode cX2_init 17 = .ok (.aload_n 0, 1) := by decide +kernel
theorem dX2_init_18 : decode cX2_init 18 = .ok (.iconst 0, 1) := by decide +kernel
theorem dX2_init_19 : decode cX2_init 19 = .ok (.putfield 19, 3) := by decide +kernel
theorem dX2_init_22 : decode cX2_init 22 = .ok (.aload_n 0, 1) := by decide +kernel
theorem dX2_init_23 : decode cX2_init 23 = .ok (.bipush 27, 2) := by decide +kernel
theorem dX2_init_25 : decode cX2_init 25 = .ok (.newarray .int, 2) := by decide +kernel
theorem dX2_init_27 : decode cX2_init 27 = .ok (.putfield 22, 3) := by decide +kernel
theorem dX2_init_30 : decode cX2_init 30 = .ok (.aload_n 0, 1) := by decide +kernel
theorem dX2_init_31 : decode cX2_init 31 = .ok (.bipush 27, 2) := by decide +kernel
theorem dX2_init_33 : decode cX2_init 33 = .ok (.newarray .int, 2) := by decide +kernel
theorem dX2_init_35 : decode cX2_init 35 = .ok (.putfield 25, 3) := by decide +kernel
theorem dX2_init_38 : decode cX2_init 38 = .ok (.aload_n 0, 1) := by decide +kernel
theorem dX2_init_39 : decode cX2_init 39 = .ok (.bipush 27, 2) := by decide +kernel
theorem dX2_init_41 : decode cX2_init 41 = .ok (.newarray .int, 2) := by decide +kernel
theorem dX2_init_43 : decode cX2_init 43 = .ok (.putfield 28, 3) := by decide +kernel
theorem dX2_init_46 : decode cX2_init 46 = .ok (.aload_n 0, 1) := by decide +kernel
theorem dX2_init_47 : decode cX2_init 47 = .ok (.iconst 0, 1) := by decide +kernel
theorem dX2_init_48 : decode cX2_init 48 = .ok (.putfield 31, 3) := by decide +kernel
theorem dX2_init_51 : decode cX2_init 51 = .ok (.aload_n 0, 1) := by decide +kernel
theorem dX2_init_52 : decode cX2_init 52 = .ok (.iconst 0, 1) := by decide +kernel
theorem dX2_init_53 : decode cX2_init 53 = .ok (.putfield 35, 3) := by decide +kernel
theorem dX2_init_56 : decode cX2_init 56 = .ok (.aload_n 0, 1) := by decide +kernel
theorem dX2_init_57 : decode cX2_init 57 = .ok (.iconst 0, 1) := by decide +kernel
theorem dX2_init_58 : decode cX2_init 58 = .ok (.putfield 38, 3) := by decide +kernel
theorem dX2_init_61 : decode cX2_init 61 = .ok (.return_, 1) := by decide +kernel
theorem dX2_read_0 : decode cX2_read 0 = .ok (.aload_n 0, 1) := by decide +kernel
theorem dX2_read_1 : decode cX2_read 1 = .ok (.iconst 0, 1) := by decide +kernel
theorem dX2_read_2 : decode cX2_read 2 = .ok (.putfield 19, 3) := by decide +kernel
theorem dX2_read_5 : decode cX2_read 5 = .ok (.aload_n 0, 1) := by decide +kernel
theorem dX2_read_6 : decode cX2_read 6 = .ok (.invokevirtual 41, 3) := by decide +kernel
theorem dX2_read_9 : decode cX2_read 9 = .ok (.iconst 0, 1) := by decide +kernel
theorem dX2_read_10 : decode cX2_read 10 = .ok (.istore_n 1, 1) := by decide +kernel
theorem dX2_read_11 : decode cX2_read 11 = .ok (.iload_n 1, 1) := by decide +kernel
theorem dX2_read_12 : decode cX2_read 12 = .ok (.aload_n 0, 1) := by decide +kernel
theorem dX2_read_13 : decode cX2_read 13 = .ok (.getfield 15, 3) := by decide +kernel
theorem dX2_read_16 : decode cX2_read 16 = .ok (.if_icmp .ge 46, 3) := by decide +kernel
theorem dX2_read_19 : decode cX2_read 19 = .ok (.aload_n 0, 1) := by decide +kernel
theorem dX2_read_20 : decode cX2_read 20 = .ok (.getfield 9, 3) := by decide +kernel
theorem dX2_read_23 : decode cX2_read 23 = .ok (.iload_n 1, 1) := by decide +kernel
theorem dX2_read_24 : decode cX2_read 24 = .ok (.invokestatic 44, 3) := by decide +kernel
theorem dX2_read_27 : decode cX2_read 27 = .ok (.istore_n 2, 1) := by decide +kernel
theorem dX2_read_28 : decode cX2_read 28 = .ok (.aload_n 0, 1) := by decide +kernel
theorem dX2_read_29 : decode cX2_read 29 = .ok (.getfield 31, 3) := by decide +kernel
theorem dX2_read_32 : decode cX2_read 32 = .ok (.ifCond .eq 11, 3) := by decide +kernel
theorem dX2_read_35 : decode cX2_read 35 = .ok (.aload_n 0, 1) := by decide +kernel
theorem dX2_read_36 : decode cX2_read 36 = .ok (.iload_n 2, 1) := by decide +kernel
theorem dX2_read_37 : decode cX2_read 37 = .ok (.invokevirtual 48, 3) := by decide +kernel
theorem dX2_read_40 : decode cX2_read 40 = .ok (.goto 9, 3) := by decide +kernel
theorem dX2_read_43 : decode cX2_read 43 = .ok (.aload_n 0, 1) := by decide +kernel
theorem dX2_read_44 : decode cX2_read 44 = .ok (.iload_n 2, 1) := by decide +kernel
theorem dX2_read_45 : decode cX2_read 45 = .ok (.iload_n 1, 1) := by decide +kernel
theorem dX2_read_46 : decode cX2_read 46 = .ok (.invokevirtual 52, 3) := by decide +kernel
theorem dX2_read_49 : decode cX2_read 49 = .ok (.istore_n 3, 1) := by decide +kernel
theorem dX2_read_50 : decode cX2_read 50 = .ok (.iload_n 3, 1) := by decide +kernel
theorem dX2_read_51 : decode cX2_read 51 = .ok (.ifCond .ne 5, 3) := by decide +kernel
theorem dX2_read_54 : decode cX2_read 54 = .ok (.iload_n 1, 1) := by decide +kernel
theorem dX2_read_55 : decode cX2_read 55 = .ok (.ireturn, 1) := by decide +kernel
theorem dX2_read_56 : decode cX2_read 56 = .ok (.iinc 1 1, 3) := by decide +kernel
theorem dX2_read_59 : decode cX2_read 59 = .ok (.goto (-48), 3) := by decide +kernel
theorem dX2_read_62 : decode cX2_read 62 = .ok (.aload_n 0, 1) := by decide +kernel
theorem dX2_read_63 : decode cX2_read 63 = .ok (.getfield 31, 3) := by decide +kernel
theorem dX2_read_66 : decode cX2_read 66 = .ok (.ifCond .eq 7, 3) := by decide +kernel
theorem dX2_read_69 : decode cX2_read 69 = .ok (.iconst (-1), 1) := by decide +kernel
theorem dX2_read_70 : decode cX2_read 70 = .ok (.goto 7, 3) := by decide +kernel
theorem dX2_read_73 : decode cX2_read 73 = .ok (.aload_n 0, 1) := by decide +kernel
theorem dX2_read_74 : decode cX2_read 74 = .ok (.getfield 15, 3) := by decide +kernel
theorem dX2_read_77 : decode cX2_read 77 = .ok (.ireturn, 1) := by decide +kernel
theorem dX2_awaitKey_0 : decode cX2_awaitKey 0 = .ok (.aload_n 0, 1) := by decide +kernel
theorem dX2_awaitKey_1 : decode cX2_awaitKey 1 = .ok (.iconst 0, 1) := by decide +kernel
theorem dX2_awaitKey_2 : decode cX2_awaitKey 2 = .ok (.putfield 31, 3) := by decide +kernel
theorem dX2_awaitKey_5 : decode cX2_awaitKey 5 = .ok (.aload_n 0, 1) := by decide +kernel
theorem dX2_awaitKey_6 : decode cX2_awaitKey 6 = .ok (.iconst 0, 1) := by decide +kernel
theorem dX2_awaitKey_7 : decode cX2_awaitKey 7 = .ok (.putfield 35, 3) := by decide +kernel
theorem dX2_awaitKey_10 : decode cX2_awaitKey 10 = .ok (.aload_n 0, 1) := by decide +kernel
theorem dX2_awaitKey_11 : decode cX2_awaitKey 11 = .ok (.iconst 0, 1) := by decide +kernel
theorem dX2_awaitKey_12 : decode cX2_awaitKey 12 = .ok (.putfield 38, 3) := by decide +kernel
theorem dX2_awaitKey_15 : decode cX2_awaitKey 15 = .ok (.return_, 1) := by decide +kernel
theorem dX2_readInKey_0 : decode cX2_readInKey 0 = .ok (.iload_n 1, 1) := by decide +kernel
theorem dX2_readInKey_1 : decode cX2_readInKey 1 = .ok (.bipush 61, 2) := by decide +kernel
theorem dX2_readInKey_3 : decode cX2_readInKey 3 = .ok (.if_icmp .ne 26, 3) := by decide +kernel
theorem dX2_readInKey_6 : decode cX2_readInKey 6 = .ok (.aload_n 0, 1) := by decide +kernel
theorem dX2_readInKey_7 : decode cX2_readInKey 7 = .ok (.getfield 35, 3) := by decide +kernel
theorem dX2_readInKey_10 : decode cX2_readInKey 10 = .ok (.ifCond .le 17, 3) := by decide +kernel
theorem dX2_readInKey_13 : decode cX2_readInKey 13 = .ok (.aload_n 0, 1) := by decide +kernel
theorem dX2_readInKey_14 : decode cX2_readInKey 14 = .ok (.iload_n 2, 1) := by decide +kernel
theorem dX2_readInKey_15 : decode cX2_readInKey 15 = .ok (.iconst 1, 1) := by decide +kernel
theorem dX2_readInKey_16 : decode cX2_readInKey 16 = .ok (.iadd, 1) := by decide +kernel
theorem dX2_readInKey_17 : decode cX2_readInKey 17 = .ok (.invokevirtual 56, 3) := by decide +kernel
theorem dX2_readInKey_20 : decode cX2_readInKey 20 = .ok (.ifCond .eq 7, 3) := by decide +kernel
theorem dX2_readInKey_23 : decode cX2_readInKey 23 = .ok (.iconst 1, 1) := by decide +kernel
theorem dX2_readInKey_24 : decode cX2_readInKey 24 = .ok (.goto 4, 3) := by decide +kernel
theorem dX2_readInKey_27 : decode cX2_readInKey 27 = .ok (.iconst 0, 1) := by decide +kernel
theorem dX2_readInKey_28 : decode cX2_readInKey 28 = .ok (.ireturn, 1) := by decide +kernel
theorem dX2_readInKey_29 : decode cX2_readInKey 29 = .ok (.aload_n 0, 1) := by decide +kernel
theorem dX2_readInKey_30 : decode cX2_readInKey 30 = .ok (.getfield 35, 3) := by decide +kernel
theorem dX2_readInKey_33 : decode cX2_readInKey 33 = .ok (.ifCond .le 14, 3) := by decide +kernel
theorem dX2_readInKey_36 : decode cX2_readInKey 36 = .ok (.aload_n 0, 1) := by decide +kernel
theorem dX2_readInKey_37 : decode cX2_readInKey 37 = .ok (.getfield 38, 3) := by decide +kernel
theorem dX2_readInKey_40 : decode cX2_readInKey 40 = .ok (.ifCond .ne 7, 3) := by decide +kernel
theorem dX2_readInKey_43 : decode cX2_readInKey 43 = .ok (.iconst 1, 1) := by decide +kernel
theorem dX2_readInKey_44 : decode cX2_readInKey 44 = .ok (.goto 4, 3) := by decide +kernel
theorem dX2_readInKey_47 : decode cX2_readInKey 47 = .ok (.iconst 0, 1) := by decide +kernel
theorem dX2_readInKey_48 : decode cX2_readInKey 48 = .ok (.istore_n 3, 1) := by decide +kernel
theorem dX2_readInKey_49 : decode cX2_readInKey 49 = .ok (.iload_n 1, 1) := by decide +kernel
theorem dX2_readInKey_50 : decode cX2_readInKey 50 = .ok (.bipush 48, 2) := by decide +kernel
theorem dX2_readInKey_52 : decode cX2_readInKey 52 = .ok (.if_icmp .lt 13, 3) := by decide +kernel
theorem dX2_readInKey_55 : decode cX2_readInKey 55 = .ok (.iload_n 1, 1) := by decide +kernel
theorem dX2_readInKey_56 : decode cX2_readInKey 56 = .ok (.bipush 57, 2) := by decide +kernel
theorem dX2_readInKey_58 : decode cX2_readInKey 58 = .ok (.if_icmp .gt 7, 3) := by decide +kernel
theorem dX2_readInKey_61 : decode cX2_readInKey 61 = .ok (.iload_n 3, 1) := by decide +kernel
theorem dX2_readInKey_62 : decode cX2_readInKey 62 = .ok (.ifCond .eq 5, 3) := by decide +kernel
theorem dX2_readInKey_65 : decode cX2_readInKey 65 = .ok (.iconst 0, 1) := by decide +kernel
theorem dX2_readInKey_66 : decode cX2_readInKey 66 = .ok (.ireturn, 1) := by decide +kernel
theorem dX2_readInKey_67 : decode cX2_readInKey 67 = .ok (.aload_n 0, 1) := by decide +kernel
theorem dX2_readInKey_68 : decode cX2_readInKey 68 = .ok (.aload_n 0, 1) := by decide +kernel
theorem dX2_readInKey_69 : decode cX2_readInKey 69 = .ok (.getfield 38, 3) := by decide +kernel
theorem dX2_readInKey_72 : decode cX2_readInKey 72 = .ok (.bipush 10, 2) := by decide +kernel
theorem dX2_readInKey_74 : decode cX2_readInKey 74 = .ok (.imul, 1) := by decide +kernel
theorem dX2_readInKey_75 : decode cX2_readInKey 75 = .ok (.iload_n 1, 1) := by decide +kernel
theorem dX2_readInKey_76 : decode cX2_readInKey 76 = .ok (.iadd, 1) := by decide +kernel
theorem dX2_readInKey_77 : decode cX2_readInKey 77 = .ok (.bipush 48, 2) := by decide +kernel
theorem dX2_readInKey_79 : decode cX2_readInKey 79 = .ok (.isub, 1) := by decide +kernel
theorem dX2_readInKey_80 : decode cX2_readInKey 80 = .ok (.putfield 38, 3) := by decide +kernel
theorem dX2_readInKey_83 : decode cX2_readInKey 83 = .ok (.aload_n 0, 1) := by decide +kernel
theorem dX2_readInKey_84 : decode cX2_readInKey 84 = .ok (.dup, 1) := by decide +kernel
theorem dX2_readInKey_85 : decode cX2_readInKey 85 = .ok (.getfield 35, 3) := by decide +kernel
theorem dX2_readInKey_88 : decode cX2_readInKey 88 = .ok (.iconst 1, 1) := by decide +kernel
theorem dX2_readInKey_89 : decode cX2_readInKey 89 = .ok (.iadd, 1) := by decide +kernel
theorem dX2_readInKey_90 : decode cX2_readInKey 90 = .ok (.putfield 35, 3) := by decide +kernel
theorem dX2_readInKey_93 : decode cX2_readInKey 93 = .ok (.aload_n 0, 1) := by decide +kernel
theorem dX2_readInKey_94 : decode cX2_readInKey 94 = .ok (.getfield 38, 3) := by decide +kernel
theorem dX2_readInKey_97 : decode cX2_readInKey 97 = .ok (.bipush 100, 2) := by decide +kernel
theorem dX2_readInKey_99 : decode cX2_readInKey 99 = .ok (.if_icmp .ge 7, 3) := by decide +kernel
theorem dX2_readInKey_102 : decode cX2_readInKey 102 = .ok (.iconst 1, 1) := by decide +kernel
theorem dX2_readInKey_103 : decode cX2_readInKey 103 = .ok (.goto 4, 3) := by decide +kernel
theorem dX2_readInKey_106 : decode cX2_readInKey 106 = .ok (.iconst 0, 1) := by decide +kernel
theorem dX2_readInKey_107 : decode cX2_readInKey 107 = .ok (.ireturn, 1) := by decide +kernel
theorem dX2_startText_0 : decode cX2_startText 0 = .ok (.aload_n 0, 1) := by decide +kernel
theorem dX2_startText_1 : decode cX2_startText 1 = .ok (.getfield 19, 3) := by decide +kernel
theorem dX2_startText_4 : decode cX2_startText 4 = .ok (.bipush 27, 2) := by decide +kernel
theorem dX2_startText_6 : decode cX2_startText 6 = .ok (.if_icmp .lt 5, 3) := by decide +kernel
theorem dX2_startText_9 : decode cX2_startText 9 = .ok (.iconst 0, 1) := by decide +kernel
theorem dX2_startText_10 : decode cX2_startText 10 = .ok (.ireturn, 1) := by decide +kernel
theorem dX2_startText_11 : decode cX2_startText 11 = .ok (.aload_n 0, 1) := by decide +kernel
theorem dX2_startText_12 : decode cX2_startText 12 = .ok (.getfield 22, 3) := by decide +kernel
theorem dX2_startText_15 : decode cX2_startText 15 = .ok (.aload_n 0, 1) := by decide +kernel
theorem dX2_startText_16 : decode cX2_startText 16 = .ok (.getfield 19, 3) := by decide +kernel
theorem dX2_startText_19 : decode cX2_startText 19 = .ok (.aload_n 0, 1) := by decide +kernel
theorem dX2_startText_20 : decode cX2_startText 20 = .ok (.getfield 38, 3) := by decide +kernel
theorem dX2_startText_23 : decode cX2_startText 23 = .ok (.invokestatic 59, 3) := by decide +kernel
theorem dX2_startText_26 : decode cX2_startText 26 = .ok (.aload_n 0, 1) := by decide +kernel
theorem dX2_startText_27 : decode cX2_startText 27 = .ok (.getfield 25, 3) := by decide +kernel
theorem dX2_startText_30 : decode cX2_startText 30 = .ok (.aload_n 0, 1) := by decide +kernel
theorem dX2_startText_31 : decode cX2_startText 31 = .ok (.getfield 19, 3) := by decide +kernel
theorem dX2_startText_34 : decode cX2_startText 34 = .ok (.iload_n 1, 1) := by decide +kernel
theorem dX2_startText_35 : decode cX2_startText 35 = .ok (.invokestatic 59, 3) := by decide +kernel
theorem dX2_startText_38 : decode cX2_startText 38 = .ok (.aload_n 0, 1) := by decide +kernel
theorem dX2_startText_39 : decode cX2_startText 39 = .ok (.getfield 28, 3) := by decide +kernel
theorem dX2_startText_42 : decode cX2_startText 42 = .ok (.aload_n 0, 1) := by decide +kernel
theorem dX2_startText_43 : decode cX2_startText 43 = .ok (.getfield 19, 3) := by decide +kernel
theorem dX2_startText_46 : decode cX2_startText 46 = .ok (.iconst 0, 1) := by decide +kernel
theorem dX2_startText_47 : decode cX2_startText 47 = .ok (.invokestatic 59, 3) := by decide +kernel
theorem dX2_startText_50 : decode cX2_startText 50 = .ok (.aload_n 0, 1) := by decide +kernel
theorem dX2_startText_51 : decode cX2_startText 51 = .ok (.dup, 1) := by decide +kernel
theorem dX2_startText_52 : decode cX2_startText 52 = .ok (.getfield 19, 3) := by decide +kernel
theorem dX2_startText_55 : decode cX2_startText 55 = .ok (.iconst 1, 1) := by decide +kernel
theorem dX2_startText_56 : decode cX2_startText 56 = .ok (.iadd, 1) := by decide +kernel
theorem dX2_startText_57 : decode cX2_startText 57 = .ok (.putfield 19, 3) := by decide +kernel
theorem dX2_startText_60 : decode cX2_startText 60 = .ok (.aload_n 0, 1) := by decide +kernel
theorem dX2_startText_61 : decode cX2_startText 61 = .ok (.iconst 1, 1) := by decide +kernel
theorem dX2_startText_62 : decode cX2_startText 62 = .ok (.putfield 31, 3) := by decide +kernel
theorem dX2_startText_65 : decode cX2_startText 65 = .ok (.iconst 1, 1) := by decide +kernel
theorem dX2_startText_66 : decode cX2_startText 66 = .ok (.ireturn, 1) := by decide +kernel
theorem dX2_readInText_0 : decode cX2_readInText 0 = .ok (.iload_n 1, 1) := by decide +kernel
theorem dX2_readInText_1 : decode cX2_readInText 1 = .ok (.bipush 59, 2) := by decide +kernel
theorem dX2_readInText_3 : decode cX2_readInText 3 = .ok (.if_icmp .ne 9, 3) := by decide +kernel
theorem dX2_readInText_6 : decode cX2_readInText 6 = .ok (.aload_n 0, 1) := by decide +kernel
theorem dX2_readInText_7 : decode cX2_readInText 7 = .ok (.invokevirtual 41, 3) := by decide +kernel
theorem dX2_readInText_10 : decode cX2_readInText 10 = .ok (.iconst 1, 1) := by decide +kernel
theorem dX2_readInText_11 : decode cX2_readInText 11 = .ok (.ireturn, 1) := by decide +kernel
theorem dX2_readInText_12 : decode cX2_readInText 12 = .ok (.aload_n 0, 1) := by decide +kernel
theorem dX2_readInText_13 : decode cX2_readInText 13 = .ok (.getfield 28, 3) := by decide +kernel
theorem dX2_readInText_16 : decode cX2_readInText 16 = .ok (.aload_n 0, 1) := by decide +kernel
theorem dX2_readInText_17 : decode cX2_readInText 17 = .ok (.getfield 19, 3) := by decide +kernel
theorem dX2_readInText_20 : decode cX2_readInText 20 = .ok (.iconst 1, 1) := by decide +kernel
theorem dX2_readInText_21 : decode cX2_readInText 21 = .ok (.isub, 1) := by decide +kernel
theorem dX2_readInText_22 : decode cX2_readInText 22 = .ok (.invokestatic 44, 3) := by decide +kernel
theorem dX2_readInText_25 : decode cX2_readInText 25 = .ok (.istore_n 2, 1) := by decide +kernel
theorem dX2_readInText_26 : decode cX2_readInText 26 = .ok (.iload_n 1, 1) := by decide +kernel
theorem dX2_readInText_27 : decode cX2_readInText 27 = .ok (.bipush 97, 2) := by decide +kernel
theorem dX2_readInText_29 : decode cX2_readInText 29 = .ok (.if_icmp .lt 15, 3) := by decide +kernel
theorem dX2_readInText_32 : decode cX2_readInText 32 = .ok (.iload_n 1, 1) := by decide +kernel
theorem dX2_readInText_33 : decode cX2_readInText 33 = .ok (.bipush 122, 2) := by decide +kernel
theorem dX2_readInText_35 : decode cX2_readInText 35 = .ok (.if_icmp .gt 9, 3) := by decide +kernel
theorem dX2_readInText_38 : decode cX2_readInText 38 = .ok (.iload_n 2, 1) := by decide +kernel
theorem dX2_readInText_39 : decode cX2_readInText 39 = .ok (.bipush 40, 2) := by decide +kernel
theorem dX2_readInText_41 : decode cX2_readInText 41 = .ok (.if_icmp .lt 5, 3) := by decide +kernel
theorem dX2_readInText_44 : decode cX2_readInText 44 = .ok (.iconst 0, 1) := by decide +kernel
theorem dX2_readInText_45 : decode cX2_readInText 45 = .ok (.ireturn, 1) := by decide +kernel
theorem dX2_readInText_46 : decode cX2_readInText 46 = .ok (.aload_n 0, 1) := by decide +kernel
theorem dX2_readInText_47 : decode cX2_readInText 47 = .ok (.getfield 28, 3) := by decide +kernel
theorem dX2_readInText_50 : decode cX2_readInText 50 = .ok (.aload_n 0, 1) := by decide +kernel
theorem dX2_readInText_51 : decode cX2_readInText 51 = .ok (.getfield 19, 3) := by decide +kernel
theorem dX2_readInText_54 : decode cX2_readInText 54 = .ok (.iconst 1, 1) := by decide +kernel
theorem dX2_readInText_55 : decode cX2_readInText 55 = .ok (.isub, 1) := by decide +kernel
theorem dX2_readInText_56 : decode cX2_readInText 56 = .ok (.iload_n 2, 1) := by decide +kernel
theorem dX2_readInText_57 : decode cX2_readInText 57 = .ok (.iconst 1, 1) := by decide +kernel
theorem dX2_readInText_58 : decode cX2_readInText 58 = .ok (.iadd, 1) := by decide +kernel
theorem dX2_readInText_59 : decode cX2_readInText 59 = .ok (.invokestatic 59, 3) := by decide +kernel
theorem dX2_readInText_62 : decode cX2_readInText 62 = .ok (.iconst 1, 1) := by decide +kernel
theorem dX2_readInText_63 : decode cX2_readInText 63 = .ok (.ireturn, 1) := by decide +kernel
theorem dX3_init_0 : decode cX3_init 0 = .ok (.aload_n 0, 1) := by decide +kernel
theorem dX3_init_1 : decode cX3_init 1 = .ok (.invokespecial 3, 3) := by decide +kernel
theorem dX3_init_4 : decode cX3_init 4 = .ok (.aload_n 0, 1) := by decide +kernel
theorem dX3_init_5 : decode cX3_init 5 = .ok (.sipush 400, 3) := by decide +kernel
theorem dX3_init_8 : decode cX3_init 8 = .ok (.newarray .int, 2) := by decide +kernel
theorem dX3_init_10 : decode cX3_init 10 = .ok (.putfield 9, 3) := by decide +kernel
theorem dX3_init_13 : decode cX3_init 13 = .ok (.aload_n 0, 1) := by decide +kernel
theorem dX3_init_14 : decode cX3_init 14 = .ok (.sipush 400, 3) := by decide +kernel
theorem dX3_init_17 : decode cX3_init 17 = .ok (.newarray .int, 2) := by decide +kernel
theorem dX3_init_19 : decode cX3_init 19 = .ok (.putfield 15, 3) := by decide +kernel
theorem dX3_init_22 : decode cX3_init 22 = .ok (.aload_n 0, 1) := by decide +kernel
theorem dX3_init_23 : decode cX3_init 23 = .ok (.sipush 400, 3) := by decide +kernel
theorem dX3_init_26 : decode cX3_init 26 = .ok (.newarray .int, 2) := by decide +kernel
theorem dX3_init_28 : decode cX3_init 28 = .ok (.putfield 18, 3) := by decide +kernel
theorem dX3_init_31 : decode cX3_init 31 = .ok (.aload_n 0, 1) := by decide +kernel
theorem dX3_init_32 : decode cX3_init 32 = .ok (.bipush 10, 2) := by decide +kernel
theorem dX3_init_34 : decode cX3_init 34 = .ok (.newarray .int, 2) := by decide +kernel
theorem dX3_init_36 : decode cX3_init 36 = .ok (.putfield 21, 3) := by decide +kernel
theorem dX3_init_39 : decode cX3_init 39 = .ok (.aload_n 0, 1) := by decide +kernel
theorem dX3_init_40 : decode cX3_init 40 = .ok (.getfield 21, 3) := by decide +kernel
theorem dX3_init_43 : decode cX3_init 43 = .ok (.bipush 40, 2) := by decide +kernel
theorem dX3_init_45 : decode cX3_init 45 = .ok (.invokestatic 24, 3) := by decide +kernel
theorem dX3_init_48 : decode cX3_init 48 = .ok (.return_, 1) := by decide +kernel
theorem dX3_copyFrom_0 : decode cX3_copyFrom 0 = .ok (.aload_n 1, 1) := by decide +kernel
theorem dX3_copyFrom_1 : decode cX3_copyFrom 1 = .ok (.getfield 9, 3) := by decide +kernel
theorem dX3_copyFrom_4 : decode cX3_copyFrom 4 = .ok (.iconst 0, 1) := by decide +kernel
theorem dX3_copyFrom_5 : decode cX3_copyFrom 5 = .ok (.aload_n 0, 1) := by decide +kernel
theorem dX3_copyFrom_6 : decode cX3_copyFrom 6 = .ok (.getfield 9, 3) := by decide +kernel
theorem dX3_copyFrom_9 : decode cX3_copyFrom 9 = .ok (.iconst 0, 1) := by decide +kernel
theorem dX3_copyFrom_10 : decode cX3_copyFrom 10 = .ok (.sipush 400, 3) := by decide +kernel
theorem dX3_copyFrom_13 : decode cX3_copyFrom 13 = .ok (.invokestatic 30, 3) := by decide +kernel
theorem dX3_copyFrom_16 : decode cX3_copyFrom 16 = .ok (.aload_n 1, 1) := by decide +kernel
theorem dX3_copyFrom_17 : decode cX3_copyFrom 17 = .ok (.getfield 15, 3) := by decide +kernel
theorem dX3_copyFrom_20 : decode cX3_copyFrom 20 = .ok (.iconst 0, 1) := by decide +kernel
theorem dX3_copyFrom_21 : decode cX3_copyFrom 21 = .ok (.aload_n 0, 1) := by decide +kernel
theorem dX3_copyFrom_22 : decode cX3_copyFrom 22 = .ok (.getfield 15, 3) := by decide +kernel
theorem dX3_copyFrom_25 : decode cX3_copyFrom 25 = .ok (.iconst 0, 1) := by decide +kernel
theorem dX3_copyFrom_26 : decode cX3_copyFrom 26 = .ok (.sipush 400, 3) := by decide +kernel
theorem dX3_copyFrom_29 : decode cX3_copyFrom 29 = .ok (.invokestatic 30, 3) := by decide +kernel
theorem dX3_copyFrom_32 : decode cX3_copyFrom 32 = .ok (.aload_n 1, 1) := by decide +kernel
theorem dX3_copyFrom_33 : decode cX3_copyFrom 33 = .ok (.getfield 18, 3) := by decide +kernel
theorem dX3_copyFrom_36 : decode cX3_copyFrom 36 = .ok (.iconst 0, 1) := by decide +kernel
theorem dX3_copyFrom_37 : decode cX3_copyFrom 37 = .ok (.aload_n 0, 1) := by decide +kernel
theorem dX3_copyFrom_38 : decode cX3_copyFrom 38 = .ok (.getfield 18, 3) := by decide +kernel
theorem dX3_copyFrom_41 : decode cX3_copyFrom 41 = .ok (.iconst 0, 1) := by decide +kernel
theorem dX3_copyFrom_42 : decode cX3_copyFrom 42 = .ok (.sipush 400, 3) := by decide +kernel
theorem dX3_copyFrom_45 : decode cX3_copyFrom 45 = .ok (.invokestatic 30, 3) := by decide +kernel
theorem dX3_copyFrom_48 : decode cX3_copyFrom 48 = .ok (.aload_n 1, 1) := by decide +kernel
theorem dX3_copyFrom_49 : decode cX3_copyFrom 49 = .ok (.getfield 21, 3) := by decide +kernel
theorem dX3_copyFrom_52 : decode cX3_copyFrom 52 = .ok (.iconst 0, 1) := by decide +kernel
theorem dX3_copyFrom_53 : decode cX3_copyFrom 53 = .ok (.aload_n 0, 1) := by decide +kernel
theorem dX3_copyFrom_54 : decode cX3_copyFrom 54 = .ok (.getfield 21, 3) := by decide +kernel
theorem dX3_copyFrom_57 : decode cX3_copyFrom 57 = .ok (.iconst 0, 1) := by decide +kernel
theorem dX3_copyFrom_58 : decode cX3_copyFrom 58 = .ok (.bipush 10, 2) := by decide +kernel
theorem dX3_copyFrom_60 : decode cX3_copyFrom 60 = .ok (.invokestatic 30, 3) := by decide +kernel
theorem dX3_copyFrom_63 : decode cX3_copyFrom 63 = .ok (.return_, 1) := by decide +kernel
theorem dX3_clear_0 : decode cX3_clear 0 = .ok (.aload_n 0, 1) := by decide +kernel
theorem dX3_clear_1 : decode cX3_clear 1 = .ok (.getfield 9, 3) := by decide +kernel
theorem dX3_clear_4 : decode cX3_clear 4 = .ok (.iconst 0, 1) := by decide +kernel
theorem dX3_clear_5 : decode cX3_clear 5 = .ok (.invokestatic 24, 3) := by decide +kernel
theorem dX3_clear_8 : decode cX3_clear 8 = .ok (.aload_n 0, 1) := by decide +kernel
theorem dX3_clear_9 : decode cX3_clear 9 = .ok (.getfield 18, 3) := by decide +kernel
theorem dX3_clear_12 : decode cX3_clear 12 = .ok (.iconst 0, 1) := by decide +kernel
theorem dX3_clear_13 : decode cX3_clear 13 = .ok (.invokestatic 24, 3) := by decide +kernel
theorem dX3_clear_16 : decode cX3_clear 16 = .ok (.aload_n 0, 1) := by decide +kernel
theorem dX3_clear_17 : decode cX3_clear 17 = .ok (.getfield 21, 3) := by decide +kernel
theorem dX3_clear_20 : decode cX3_clear 20 = .ok (.bipush 40, 2) := by decide +kernel
theorem dX3_clear_22 : decode cX3_clear 22 = .ok (.invokestatic 24, 3) := by decide +kernel
theorem dX3_clear_25 : decode cX3_clear 25 = .ok (.return_, 1) := by decide +kernel
theorem dX3_hasRoom_0 : decode cX3_hasRoom 0 = .ok (.iload_n 1, 1) := by decide +kernel
theorem dX3_hasRoom_1 : decode cX3_hasRoom 1 = .ok (.ifCond .lt 23, 3) := by decide +kernel
theorem dX3_hasRoom_4 : decode cX3_hasRoom 4 = .ok (.iload_n 1, 1) := by decide +kernel
theorem dX3_hasRoom_5 : decode cX3_hasRoom 5 = .ok (.bipush 10, 2) := by decide +kernel
theorem dX3_hasRoom_7 : decode cX3_hasRoom 7 = .ok (.if_icmp .ge 17, 3) := by decide +kernel
theorem dX3_hasRoom_10 : decode cX3_hasRoom 10 = .ok (.aload_n 0, 1) := by decide +kernel
theorem dX3_hasRoom_11 : decode cX3_hasRoom 11 = .ok (.getfield 21, 3) := by decide +kernel
theorem dX3_hasRoom_14 : decode cX3_hasRoom 14 = .ok (.iload_n 1, 1) := by decide +kernel
theorem dX3_hasRoom_15 : decode cX3_hasRoom 15 = .ok (.iaload, 1) := by decide +kernel
theorem dX3_hasRoom_16 : decode cX3_hasRoom 16 = .ok (.iload_n 2, 1) := by decide +kernel
theorem dX3_hasRoom_17 : decode cX3_hasRoom 17 = .ok (.if_icmp .lt 7, 3) := by decide +kernel
theorem dX3_hasRoom_20 : decode cX3_hasRoom 20 = .ok (.iconst 1, 1) := by decide +kernel
theorem dX3_hasRoom_21 : decode cX3_hasRoom 21 = .ok (.goto 4, 3) := by decide +kernel
theorem dX3_hasRoom_24 : decode cX3_hasRoom 24 = .ok (.iconst 0, 1) := by decide +kernel
theorem dX3_hasRoom_25 : decode cX3_hasRoom 25 = .ok (.ireturn, 1) := by decide +kernel
theorem dX3_occupy_0 : decode cX3_occupy 0 = .ok (.iload_n 1, 1) := by decide +kernel
theorem dX3_occupy_1 : decode cX3_occupy 1 = .ok (.ifCond .lt 46, 3) := by decide +kernel
theorem dX3_occupy_4 : decode cX3_occupy 4 = .ok (.iload_n 1, 1) := by decide +kernel
theorem dX3_occupy_5 : decode cX3_occupy 5 = .ok (.sipush 400, 3) := by decide +kernel
theorem dX3_occupy_8 : decode cX3_occupy 8 = .ok (.if_icmp .ge 39, 3) := by decide +kernel
theorem dX3_occupy_11 : decode cX3_occupy 11 = .ok (.aload_n 0, 1) := by decide +kernel
theorem dX3_occupy_12 : decode cX3_occupy 12 = .ok (.getfield 9, 3) := by decide +kernel
theorem dX3_occupy_15 : decode cX3_occupy 15 = .ok (.iload_n 1, 1) := by decide +kernel
theorem dX3_occupy_16 : decode cX3_occupy 16 = .ok (.iload_n 2, 1) := by decide +kernel
theorem dX3_occupy_17 : decode cX3_occupy 17 = .ok (.iastore, 1) := by decide +kernel
theorem dX3_occupy_18 : decode cX3_occupy 18 = .ok (.aload_n 0, 1) := by decide +kernel
theorem dX3_occupy_19 : decode cX3_occupy 19 = .ok (.getfield 15, 3) := by decide +kernel
theorem dX3_occupy_22 : decode cX3_occupy 22 = .ok (.iload_n 1, 1) := by decide +kernel
theorem dX3_occupy_23 : decode cX3_occupy 23 = .ok (.iload_n 3, 1) := by decide +kernel
theorem dX3_occupy_24 : decode cX3_occupy 24 = .ok (.iastore, 1) := by decide +kernel
theorem dX3_occupy_25 : decode cX3_occupy 25 = .ok (.aload_n 0, 1) := by decide +kernel
theorem dX3_occupy_26 : decode cX3_occupy 26 = .ok (.getfield 18, 3) := by decide +kernel
theorem dX3_occupy_29 : decode cX3_occupy 29 = .ok (.iload_n 1, 1) := by decide +kernel
theorem dX3_occupy_30 : decode cX3_occupy 30 = .ok (.iload 4, 2) := by decide +kernel
theorem dX3_occupy_32 : decode cX3_occupy 32 = .ok (.iastore, 1) := by decide +kernel
theorem dX3_occupy_33 : decode cX3_occupy 33 = .ok (.aload_n 0, 1) := by decide +kernel
theorem dX3_occupy_34 : decode cX3_occupy 34 = .ok (.getfield 21, 3) := by decide +kernel
theorem dX3_occupy_37 : decode cX3_occupy 37 = .ok (.iload_n 1, 1) := by decide +kernel
theorem dX3_occupy_38 : decode cX3_occupy 38 = .ok (.bipush 40, 2) := by decide +kernel
theorem dX3_occupy_40 : decode cX3_occupy 40 = .ok (.idiv, 1) := by decide +kernel
theorem dX3_occupy_41 : decode cX3_occupy 41 = .ok (.dup2, 1) := by decide +kernel
theorem dX3_occupy_42 : decode cX3_occupy 42 = .ok (.iaload, 1) := by decide +kernel
theorem dX3_occupy_43 : decode cX3_occupy 43 = .ok (.iload 4, 2) := by decide +kernel
theorem dX3_occupy_45 : decode cX3_occupy 45 = .ok (.isub, 1) := by decide +kernel
theorem dX3_occupy_46 : decode cX3_occupy 46 = .ok (.iastore, 1) := by decide +kernel
theorem dX3_occupy_47 : decode cX3_occupy 47 = .ok (.return_, 1) := by decide +kernel
theorem dX3_vacate_0 : decode cX3_vacate 0 = .ok (.iload_n 1, 1) := by decide +kernel
theorem dX3_vacate_1 : decode cX3_vacate 1 = .ok (.ifCond .lt 42, 3) := by decide +kernel
theorem dX3_vacate_4 : decode cX3_vacate 4 = .ok (.iload_n 1, 1) := by decide +kernel
theorem dX3_vacate_5 : decode cX3_vacate 5 = .ok (.sipush 400, 3) := by decide +kernel
theorem dX3_vacate_8 : decode cX3_vacate 8 = .ok (.if_icmp .ge 35, 3) := by decide +kernel
theorem dX3_vacate_11 : decode cX3_vacate 11 = .ok (.aload_n 0, 1) := by decide +kernel
theorem dX3_vacate_12 : decode cX3_vacate 12 = .ok (.getfield 21, 3) := by decide +kernel
theorem dX3_vacate_15 : decode cX3_vacate 15 = .ok (.iload_n 1, 1) := by decide +kernel
theorem dX3_vacate_16 : decode cX3_vacate 16 = .ok (.bipush 40, 2) := by decide +kernel
theorem dX3_vacate_18 : decode cX3_vacate 18 = .ok (.idiv, 1) := by decide +kernel
theorem dX3_vacate_19 : decode cX3_vacate 19 = .ok (.dup2, 1) := by decide +kernel
theorem dX3_vacate_20 : decode cX3_vacate 20 = .ok (.iaload, 1) := by decide +kernel
theorem dX3_vacate_21 : decode cX3_vacate 21 = .ok (.aload_n 0, 1) := by decide +kernel
theorem dX3_vacate_22 : decode cX3_vacate 22 = .ok (.getfield 18, 3) := by decide +kernel
theorem dX3_vacate_25 : decode cX3_vacate 25 = .ok (.iload_n 1, 1) := by decide +kernel
theorem dX3_vacate_26 : decode cX3_vacate 26 = .ok (.iaload, 1) := by decide +kernel
theorem dX3_vacate_27 : decode cX3_vacate 27 = .ok (.iadd, 1) := by decide +kernel
theorem dX3_vacate_28 : decode cX3_vacate 28 = .ok (.iastore, 1) := by decide +kernel
theorem dX3_vacate_29 : decode cX3_vacate 29 = .ok (.aload_n 0, 1) := by decide +kernel
theorem dX3_vacate_30 : decode cX3_vacate 30 = .ok (.getfield 9, 3) := by decide +kernel
theorem dX3_vacate_33 : decode cX3_vacate 33 = .ok (.iload_n 1, 1) := by decide +kernel
theorem dX3_vacate_34 : decode cX3_vacate 34 = .ok (.iconst 0, 1) := by decide +kernel
theorem dX3_vacate_35 : decode cX3_vacate 35 = .ok (.iastore, 1) := by decide +kernel
theorem dX3_vacate_36 : decode cX3_vacate 36 = .ok (.aload_n 0, 1) := by decide +kernel
theorem dX3_vacate_37 : decode cX3_vacate 37 = .ok (.getfield 18, 3) := by decide +kernel
theorem dX3_vacate_40 : decode cX3_vacate 40 = .ok (.iload_n 1, 1) := by decide +kernel
theorem dX3_vacate_41 : decode cX3_vacate 41 = .ok (.iconst 0, 1) := by decide +kernel
theorem dX3_vacate_42 : decode cX3_vacate 42 = .ok (.iastore, 1) := by decide +kernel
theorem dX3_vacate_43 : decode cX3_vacate 43 = .ok (.return_, 1) := by decide +kernel
theorem dX3_place_0 : decode cX3_place 0 = .ok (.iconst 0, 1) := by decide +kernel
theorem dX3_place_1 : decode cX3_place 1 = .ok (.istore 4, 2) := by decide +kernel
theorem dX3_place_3 : decode cX3_place 3 = .ok (.iload 4, 2) := by decide +kernel
theorem dX3_place_5 : decode cX3_place 5 = .ok (.bipush 10, 2) := by decide +kernel
theorem dX3_place_7 : decode cX3_place 7 = .ok (.if_icmp .ge 39, 3) := by decide +kernel
theorem dX3_place_10 : decode cX3_place 10 = .ok (.aload_n 0, 1) := by decide +kernel
theorem dX3_place_11 : decode cX3_place 11 = .ok (.iload 4, 2) := by decide +kernel
theorem dX3_place_13 : decode cX3_place 13 = .ok (.iload_n 3, 1) := by decide +kernel
theorem dX3_place_14 : decode cX3_place 14 = .ok (.invokevirtual 36, 3) := by decide +kernel
theorem dX3_place_17 : decode cX3_place 17 = .ok (.ifCond .eq 23, 3) := by decide +kernel
theorem dX3_place_20 : decode cX3_place 20 = .ok (.aload_n 0, 1) := by decide +kernel
theorem dX3_place_21 : decode cX3_place 21 = .ok (.iload 4, 2) := by decide +kernel
theorem dX3_place_23 : decode cX3_place 23 = .ok (.invokevirtual 40, 3) := by decide +kernel
theorem dX3_place_26 : decode cX3_place 26 = .ok (.istore 5, 2) := by decide +kernel
theorem dX3_place_28 : decode cX3_place 28 = .ok (.aload_n 0, 1) := by decide +kernel
theorem dX3_place_29 : decode cX3_place 29 = .ok (.iload 5, 2) := by decide +kernel
theorem dX3_place_31 : decode cX3_place 31 = .ok (.iload_n 1, 1) := by decide +kernel
theorem dX3_place_32 : decode cX3_place 32 = .ok (.iload_n 2, 1) := by decide +kernel
theorem dX3_place_33 : decode cX3_place 33 = .ok (.iload_n 3, 1) := by decide +kernel
theorem dX3_place_34 : decode cX3_place 34 = .ok (.invokevirtual 44, 3) := by decide +kernel
theorem dX3_place_37 : decode cX3_place 37 = .ok (.iload 5, 2) := by decide +kernel
theorem dX3_place_39 : decode cX3_place 39 = .ok (.ireturn, 1) := by decide +kernel
theorem dX3_place_40 : decode cX3_place 40 = .ok (.iinc 4 1, 3) := by decide +kernel
theorem dX3_place_43 : decode cX3_place 43 = .ok (.goto (-40), 3) := by decide +kernel
theorem dX3_place_46 : decode cX3_place 46 = .ok (.iconst (-1), 1) := by decide +kernel
theorem dX3_place_47 : decode cX3_place 47 = .ok (.ireturn, 1) := by decide +kernel
theorem dX3_lowestGap_0 : decode cX3_lowestGap 0 = .ok (.iconst 0, 1) := by decide +kernel
theorem dX3_lowestGap_1 : decode cX3_lowestGap 1 = .ok (.istore_n 2, 1) := by decide +kernel
theorem dX3_lowestGap_2 : decode cX3_lowestGap 2 = .ok (.iload_n 2, 1) := by decide +kernel
theorem dX3_lowestGap_3 : decode cX3_lowestGap 3 = .ok (.bipush 40, 2) := by decide +kernel
theorem dX3_lowestGap_5 : decode cX3_lowestGap 5 = .ok (.if_icmp .ge 29, 3) := by decide +kernel
theorem dX3_lowestGap_8 : decode cX3_lowestGap 8 = .ok (.iload_n 1, 1) := by decide +kernel
theorem dX3_lowestGap_9 : decode cX3_lowestGap 9 = .ok (.bipush 40, 2) := by decide +kernel
theorem dX3_lowestGap_11 : decode cX3_lowestGap 11 = .ok (.imul, 1) := by decide +kernel
theorem dX3_lowestGap_12 : decode cX3_lowestGap 12 = .ok (.iload_n 2, 1) := by decide +kernel
theorem dX3_lowestGap_13 : decode cX3_lowestGap 13 = .ok (.iadd, 1) := by decide +kernel
theorem dX3_lowestGap_14 : decode cX3_lowestGap 14 = .ok (.istore_n 3, 1) := by decide +kernel
theorem dX3_lowestGap_15 : decode cX3_lowestGap 15 = .ok (.aload_n 0, 1) := by decide +kernel
theorem dX3_lowestGap_16 : decode cX3_lowestGap 16 = .ok (.getfield 9, 3) := by decide +kernel
theorem dX3_lowestGap_19 : decode cX3_lowestGap 19 = .ok (.iload_n 3, 1) := by decide +kernel
theorem dX3_lowestGap_20 : decode cX3_lowestGap 20 = .ok (.invokestatic 48, 3) := by decide +kernel
theorem dX3_lowestGap_23 : decode cX3_lowestGap 23 = .ok (.ifCond .ne 5, 3) := by decide +kernel
theorem dX3_lowestGap_26 : decode cX3_lowestGap 26 = .ok (.iload_n 3, 1) := by decide +kernel
theorem dX3_lowestGap_27 : decode cX3_lowestGap 27 = .ok (.ireturn, 1) := by decide +kernel
theorem dX3_lowestGap_28 : decode cX3_lowestGap 28 = .ok (.iinc 2 1, 3) := by decide +kernel
theorem dX3_lowestGap_31 : decode cX3_lowestGap 31 = .ok (.goto (-29), 3) := by decide +kernel
theorem dX3_lowestGap_34 : decode cX3_lowestGap 34 = .ok (.iconst (-1), 1) := by decide +kernel
theorem dX3_lowestGap_35 : decode cX3_lowestGap 35 = .ok (.ireturn, 1) := by decide +kernel
theorem dX3_slotsOf_0 : decode cX3_slotsOf 0 = .ok (.bipush 39, 2) := by decide +kernel
theorem dX3_slotsOf_2 : decode cX3_slotsOf 2 = .ok (.istore_n 2, 1) := by decide +kernel
theorem dX3_slotsOf_3 : decode cX3_slotsOf 3 = .ok (.iload_n 2, 1) := by decide +kernel
theorem dX3_slotsOf_4 : decode cX3_slotsOf 4 = .ok (.ifCond .lt 29, 3) := by decide +kernel
theorem dX3_slotsOf_7 : decode cX3_slotsOf 7 = .ok (.aload_n 0, 1) := by decide +kernel
theorem dX3_slotsOf_8 : decode cX3_slotsOf 8 = .ok (.getfield 9, 3) := by decide +kernel
theorem dX3_slotsOf_11 : decode cX3_slotsOf 11 = .ok (.iload_n 1, 1) := by decide +kernel
theorem dX3_slotsOf_12 : decode cX3_slotsOf 12 = .ok (.bipush 40, 2) := by decide +kernel
theorem dX3_slotsOf_14 : decode cX3_slotsOf 14 = .ok (.imul, 1) := by decide +kernel
theorem dX3_slotsOf_15 : decode cX3_slotsOf 15 = .ok (.iload_n 2, 1) := by decide +kernel
theorem dX3_slotsOf_16 : decode cX3_slotsOf 16 = .ok (.iadd, 1) := by decide +kernel
theorem dX3_slotsOf_17 : decode cX3_slotsOf 17 = .ok (.invokestatic 48, 3) := by decide +kernel
theorem dX3_slotsOf_20 : decode cX3_slotsOf 20 = .ok (.ifCond .eq 7, 3) := by decide +kernel
theorem dX3_slotsOf_23 : decode cX3_slotsOf 23 = .ok (.iload_n 2, 1) := by decide +kernel
theorem dX3_slotsOf_24 : decode cX3_slotsOf 24 = .ok (.iconst 1, 1) := by decide +kernel
theorem dX3_slotsOf_25 : decode cX3_slotsOf 25 = .ok (.iadd, 1) := by decide +kernel
theorem dX3_slotsOf_26 : decode cX3_slotsOf 26 = .ok (.ireturn, 1) := by decide +kernel
theorem dX3_slotsOf_27 : decode cX3_slotsOf 27 = .ok (.iinc 2 (-1), 3) := by decide +kernel
theorem dX3_slotsOf_30 : decode cX3_slotsOf 30 = .ok (.goto (-27), 3) := by decide +kernel
theorem dX3_slotsOf_33 : decode cX3_slotsOf 33 = .ok (.iconst 0, 1) := by decide +kernel
theorem dX3_slotsOf_34 : decode cX3_slotsOf 34 = .ok (.ireturn, 1) := by decide +kernel
theorem dX3_thingsOn_0 : decode cX3_thingsOn 0 = .ok (.aload_n 0, 1) := by decide +kernel
theorem dX3_thingsOn_1 : decode cX3_thingsOn 1 = .ok (.iload_n 1, 1) := by decide +kernel
theorem dX3_thingsOn_2 : decode cX3_thingsOn 2 = .ok (.invokevirtual 52, 3) := by decide +kernel
theorem dX3_thingsOn_5 : decode cX3_thingsOn 5 = .ok (.istore_n 3, 1) := by decide +kernel
theorem dX3_thingsOn_6 : decode cX3_thingsOn 6 = .ok (.iconst 0, 1) := by decide +kernel
theorem dX3_thingsOn_7 : decode cX3_thingsOn 7 = .ok (.istore 4, 2) := by decide +kernel
theorem dX3_thingsOn_9 : decode cX3_thingsOn 9 = .ok (.iconst 0, 1) := by decide +kernel
theorem dX3_thingsOn_10 : decode cX3_thingsOn 10 = .ok (.istore 5, 2) := by decide +kernel
theorem dX3_thingsOn_12 : decode cX3_thingsOn 12 = .ok (.iload 5, 2) := by decide +kernel
theorem dX3_thingsOn_14 : decode cX3_thingsOn 14 = .ok (.iload_n 3, 1) := by decide +kernel
theorem dX3_thingsOn_15 : decode cX3_thingsOn 15 = .ok (.if_icmp .ge 30, 3) := by decide +kernel
theorem dX3_thingsOn_18 : decode cX3_thingsOn 18 = .ok (.aload_n 0, 1) := by decide +kernel
theorem dX3_thingsOn_19 : decode cX3_thingsOn 19 = .ok (.getfield 9, 3) := by decide +kernel
theorem dX3_thingsOn_22 : decode cX3_thingsOn 22 = .ok (.iload_n 1, 1) := by decide +kernel
theorem dX3_thingsOn_23 : decode cX3_thingsOn 23 = .ok (.bipush 40, 2) := by decide +kernel
theorem dX3_thingsOn_25 : decode cX3_thingsOn 25 = .ok (.imul, 1) := by decide +kernel
theorem dX3_thingsOn_26 : decode cX3_thingsOn 26 = .ok (.iload 5, 2) := by decide +kernel
theorem dX3_thingsOn_28 : decode cX3_thingsOn 28 = .ok (.iadd, 1) := by decide +kernel
theorem dX3_thingsOn_29 : decode cX3_thingsOn 29 = .ok (.invokestatic 48, 3) := by decide +kernel
theorem dX3_thingsOn_32 : decode cX3_thingsOn 32 = .ok (.iload_n 2, 1) := by decide +kernel
theorem dX3_thingsOn_33 : decode cX3_thingsOn 33 = .ok (.if_icmp .ne 6, 3) := by decide +kernel
theorem dX3_thingsOn_36 : decode cX3_thingsOn 36 = .ok (.iinc 4 1, 3) := by decide +kernel
theorem dX3_thingsOn_39 : decode cX3_thingsOn 39 = .ok (.iinc 5 1, 3) := by decide +kernel
theorem dX3_thingsOn_42 : decode cX3_thingsOn 42 = .ok (.goto (-30), 3) := by decide +kernel
theorem dX3_thingsOn_45 : decode cX3_thingsOn 45 = .ok (.iload 4, 2) := by decide +kernel
theorem dX3_thingsOn_47 : decode cX3_thingsOn 47 = .ok (.ireturn, 1) := by decide +kernel
theorem dX3_thingsInAll_0 : decode cX3_thingsInAll 0 = .ok (.iconst 0, 1) := by decide +kernel
theorem dX3_thingsInAll_1 : decode cX3_thingsInAll 1 = .ok (.istore_n 2, 1) := by decide +kernel
theorem dX3_thingsInAll_2 : decode cX3_thingsInAll 2 = .ok (.iconst 0, 1) := by decide +kernel
theorem dX3_thingsInAll_3 : decode cX3_thingsInAll 3 = .ok (.istore_n 3, 1) := by decide +kernel
theorem dX3_thingsInAll_4 : decode cX3_thingsInAll 4 = .ok (.iload_n 3, 1) := by decide +kernel
theorem dX3_thingsInAll_5 : decode cX3_thingsInAll 5 = .ok (.bipush 10, 2) := by decide +kernel
theorem dX3_thingsInAll_7 : decode cX3_thingsInAll 7 = .ok (.if_icmp .ge 18, 3) := by decide +kernel
theorem dX3_thingsInAll_10 : decode cX3_thingsInAll 10 = .ok (.iload_n 2, 1) := by decide +kernel
theorem dX3_thingsInAll_11 : decode cX3_thingsInAll 11 = .ok (.aload_n 0, 1) := by decide +kernel
theorem dX3_thingsInAll_12 : decode cX3_thingsInAll 12 = .ok (.iload_n 3, 1) := by decide +kernel
theorem dX3_thingsInAll_13 : decode cX3_thingsInAll 13 = .ok (.iload_n 1, 1) := by decide +kernel
theorem dX3_thingsInAll_14 : decode cX3_thingsInAll 14 = .ok (.invokevirtual 55, 3) := by decide +kernel
theorem dX3_thingsInAll_17 : decode cX3_thingsInAll 17 = .ok (.iadd, 1) := by decide +kernel
theorem dX3_thingsInAll_18 : decode cX3_thingsInAll 18 = .ok (.istore_n 2, 1) := by decide +kernel
theorem dX3_thingsInAll_19 : decode cX3_thingsInAll 19 = .ok (.iinc 3 1, 3) := by decide +kernel
theorem dX3_thingsInAll_22 : decode cX3_thingsInAll 22 = .ok (.goto (-18), 3) := by decide +kernel
theorem dX3_thingsInAll_25 : decode cX3_thingsInAll 25 = .ok (.iload_n 2, 1) := by decide +kernel
theorem dX3_thingsInAll_26 : decode cX3_thingsInAll 26 = .ok (.ireturn, 1) := by decide +kernel
theorem dX3_pagesInUse_0 : decode cX3_pagesInUse 0 = .ok (.iconst 0, 1) := by decide +kernel
theorem dX3_pagesInUse_1 : decode cX3_pagesInUse 1 = .ok (.istore_n 1, 1) := by decide +kernel
theorem dX3_pagesInUse_2 : decode cX3_pagesInUse 2 = .ok (.iconst 0, 1) := by decide +kernel
theorem dX3_pagesInUse_3 : decode cX3_pagesInUse 3 = .ok (.istore_n 2, 1) := by decide +kernel
theorem dX3_pagesInUse_4 : decode cX3_pagesInUse 4 = .ok (.iload_n 2, 1) := by decide +kernel
theorem dX3_pagesInUse_5 : decode cX3_pagesInUse 5 = .ok (.bipush 10, 2) := by decide +kernel
theorem dX3_pagesInUse_7 : decode cX3_pagesInUse 7 = .ok (.if_icmp .ge 23, 3) := by decide +kernel
theorem dX3_pagesInUse_10 : decode cX3_pagesInUse 10 = .ok (.aload_n 0, 1) := by decide +kernel
theorem dX3_pagesInUse_11 : decode cX3_pagesInUse 11 = .ok (.getfield 21, 3) := by decide +kernel
theorem dX3_pagesInUse_14 : decode cX3_pagesInUse 14 = .ok (.iload_n 2, 1) := by decide +kernel
theorem dX3_pagesInUse_15 : decode cX3_pagesInUse 15 = .ok (.iaload, 1) := by decide +kernel
theorem dX3_pagesInUse_16 : decode cX3_pagesInUse 16 = .ok (.bipush 40, 2) := by decide +kernel
theorem dX3_pagesInUse_18 : decode cX3_pagesInUse 18 = .ok (.if_icmp .ge 6, 3) := by decide +kernel
theorem dX3_pagesInUse_21 : decode cX3_pagesInUse 21 = .ok (.iinc 1 1, 3) := by decide +kernel
theorem dX3_pagesInUse_24 : decode cX3_pagesInUse 24 = .ok (.iinc 2 1, 3) := by decide +kernel
theorem dX3_pagesInUse_27 : decode cX3_pagesInUse 27 = .ok (.goto (-23), 3) := by decide +kernel
theorem dX3_pagesInUse_30 : decode cX3_pagesInUse 30 = .ok (.iload_n 1, 1) := by decide +kernel
theorem dX3_pagesInUse_31 : decode cX3_pagesInUse 31 = .ok (.ireturn, 1) := by decide +kernel
theorem dX3_freeInAll_0 : decode cX3_freeInAll 0 = .ok (.iconst 0, 1) := by decide +kernel
theorem dX3_freeInAll_1 : decode cX3_freeInAll 1 = .ok (.istore_n 1, 1) := by decide +kernel
theorem dX3_freeInAll_2 : decode cX3_freeInAll 2 = .ok (.iconst 0, 1) := by decide +kernel
theorem dX3_freeInAll_3 : decode cX3_freeInAll 3 = .ok (.istore_n 2, 1) := by decide +kernel
theorem dX3_freeInAll_4 : decode cX3_freeInAll 4 = .ok (.iload_n 2, 1) := by decide +kernel
theorem dX3_freeInAll_5 : decode cX3_freeInAll 5 = .ok (.bipush 10, 2) := by decide +kernel
theorem dX3_freeInAll_7 : decode cX3_freeInAll 7 = .ok (.if_icmp .ge 18, 3) := by decide +kernel
theorem dX3_freeInAll_10 : decode cX3_freeInAll 10 = .ok (.iload_n 1, 1) := by decide +kernel
theorem dX3_freeInAll_11 : decode cX3_freeInAll 11 = .ok (.aload_n 0, 1) := by decide +kernel
theorem dX3_freeInAll_12 : decode cX3_freeInAll 12 = .ok (.getfield 21, 3) := by decide +kernel
theorem dX3_freeInAll_15 : decode cX3_freeInAll 15 = .ok (.iload_n 2, 1) := by decide +kernel
theorem dX3_freeInAll_16 : decode cX3_freeInAll 16 = .ok (.iaload, 1) := by decide +kernel
theorem dX3_freeInAll_17 : decode cX3_freeInAll 17 = .ok (.iadd, 1) := by decide +kernel
theorem dX3_freeInAll_18 : decode cX3_freeInAll 18 = .ok (.istore_n 1, 1) := by decide +kernel
theorem dX3_freeInAll_19 : decode cX3_freeInAll 19 = .ok (.iinc 2 1, 3) := by decide +kernel
theorem dX3_freeInAll_22 : decode cX3_freeInAll 22 = .ok (.goto (-18), 3) := by decide +kernel
theorem dX3_freeInAll_25 : decode cX3_freeInAll 25 = .ok (.iload_n 1, 1) := by decide +kernel
theorem dX3_freeInAll_26 : decode cX3_freeInAll 26 = .ok (.ireturn, 1) := by decide +kernel
theorem dX7_init_0 : decode cX7_init 0 = .ok (.aload_n 0, 1) := by decide +kernel
theorem dX7_init_1 : decode cX7_init 1 = .ok (.invokespecial 3, 3) := by decide +kernel
theorem dX7_init_4 : decode cX7_init 4 = .ok (.aload_n 0, 1) := by decide +kernel
theorem dX7_init_5 : decode cX7_init 5 = .ok (.iconst (-1), 1) := by decide +kernel
theorem dX7_init_6 : decode cX7_init 6 = .ok (.putfield 9, 3) := by decide +kernel
theorem dX7_init_9 : decode cX7_init 9 = .ok (.aload_n 0, 1) := by decide +kernel
theorem dX7_init_10 : decode cX7_init 10 = .ok (.iconst 0, 1) := by decide +kernel
theorem dX7_init_11 : decode cX7_init 11 = .ok (.putfield 15, 3) := by decide +kernel
theorem dX7_init_14 : decode cX7_init 14 = .ok (.aload_n 0, 1) := by decide +kernel
theorem dX7_init_15 : decode cX7_init 15 = .ok (.iconst (-1), 1) := by decide +kernel
theorem dX7_init_16 : decode cX7_init 16 = .ok (.putfield 18, 3) := by decide +kernel
theorem dX7_init_19 : decode cX7_init 19 = .ok (.aload_n 0, 1) := by decide +kernel
theorem dX7_init_20 : decode cX7_init 20 = .ok (.iconst (-1), 1) := by decide +kernel
theorem dX7_init_21 : decode cX7_init 21 = .ok (.putfield 21, 3) := by decide +kernel
theorem dX7_init_24 : decode cX7_init 24 = .ok (.aload_n 0, 1) := by decide +kernel
theorem dX7_init_25 : decode cX7_init 25 = .ok (.iconst 0, 1) := by decide +kernel
theorem dX7_init_26 : decode cX7_init 26 = .ok (.putfield 24, 3) := by decide +kernel
theorem dX7_init_29 : decode cX7_init 29 = .ok (.aload_n 0, 1) := by decide +kernel
theorem dX7_init_30 : decode cX7_init 30 = .ok (.bipush 40, 2) := by decide +kernel
theorem dX7_init_32 : decode cX7_init 32 = .ok (.newarray .int, 2) := by decide +kernel
theorem dX7_init_34 : decode cX7_init 34 = .ok (.putfield 27, 3) := by decide +kernel
theorem dX7_init_37 : decode cX7_init 37 = .ok (.aload_n 0, 1) := by decide +kernel
theorem dX7_init_38 : decode cX7_init 38 = .ok (.bipush 40, 2) := by decide +kernel
theorem dX7_init_40 : decode cX7_init 40 = .ok (.newarray .int, 2) := by decide +kernel
theorem dX7_init_42 : decode cX7_init 42 = .ok (.putfield 31, 3) := by decide +kernel
theorem dX7_init_45 : decode cX7_init 45 = .ok (.return_, 1) := by decide +kernel
theorem dX7_copyFrom_0 : decode cX7_copyFrom 0 = .ok (.aload_n 0, 1) := by decide +kernel
theorem dX7_copyFrom_1 : decode cX7_copyFrom 1 = .ok (.aload_n 1, 1) := by decide +kernel
theorem dX7_copyFrom_2 : decode cX7_copyFrom 2 = .ok (.getfield 9, 3) := by decide +kernel
theorem dX7_copyFrom_5 : decode cX7_copyFrom 5 = .ok (.putfield 9, 3) := by decide +kernel
theorem dX7_copyFrom_8 : decode cX7_copyFrom 8 = .ok (.aload_n 0, 1) := by decide +kernel
theorem dX7_copyFrom_9 : decode cX7_copyFrom 9 = .ok (.aload_n 1, 1) := by decide +kernel
theorem dX7_copyFrom_10 : decode cX7_copyFrom 10 = .ok (.getfield 15, 3) := by decide +kernel
theorem dX7_copyFrom_13 : decode cX7_copyFrom 13 = .ok (.putfield 15, 3) := by decide +kernel
theorem dX7_copyFrom_16 : decode cX7_copyFrom 16 = .ok (.aload_n 0, 1) := by decide +kernel
theorem dX7_copyFrom_17 : decode cX7_copyFrom 17 = .ok (.aload_n 1, 1) := by decide +kernel
theorem dX7_copyFrom_18 : decode cX7_copyFrom 18 = .ok (.getfield 18, 3) := by decide +kernel
theorem dX7_copyFrom_21 : decode cX7_copyFrom 21 = .ok (.putfield 18, 3) := by decide +kernel
theorem dX7_copyFrom_24 : decode cX7_copyFrom 24 = .ok (.aload_n 0, 1) := by decide +kernel
theorem dX7_copyFrom_25 : decode cX7_copyFrom 25 = .ok (.aload_n 1, 1) := by decide +kernel
theorem dX7_copyFrom_26 : decode cX7_copyFrom 26 = .ok (.getfield 21, 3) := by decide +kernel
theorem dX7_copyFrom_29 : decode cX7_copyFrom 29 = .ok (.putfield 21, 3) := by decide +kernel
theorem dX7_copyFrom_32 : decode cX7_copyFrom 32 = .ok (.aload_n 0, 1) := by decide +kernel
theorem dX7_copyFrom_33 : decode cX7_copyFrom 33 = .ok (.aload_n 1, 1) := by decide +kernel
theorem dX7_copyFrom_34 : decode cX7_copyFrom 34 = .ok (.getfield 24, 3) := by decide +kernel
theorem dX7_copyFrom_37 : decode cX7_copyFrom 37 = .ok (.putfield 24, 3) := by decide +kernel
theorem dX7_copyFrom_40 : decode cX7_copyFrom 40 = .ok (.aload_n 1, 1) := by decide +kernel
theorem dX7_copyFrom_41 : decode cX7_copyFrom 41 = .ok (.getfield 27, 3) := by decide +kernel
theorem dX7_copyFrom_44 : decode cX7_copyFrom 44 = .ok (.iconst 0, 1) := by decide +kernel
theorem dX7_copyFrom_45 : decode cX7_copyFrom 45 = .ok (.aload_n 0, 1) := by decide +kernel
theorem dX7_copyFrom_46 : decode cX7_copyFrom 46 = .ok (.getfield 27, 3) := by decide +kernel
theorem dX7_copyFrom_49 : decode cX7_copyFrom 49 = .ok (.iconst 0, 1) := by decide +kernel
theorem dX7_copyFrom_50 : decode cX7_copyFrom 50 = .ok (.bipush 40, 2) := by decide +kernel
theorem dX7_copyFrom_52 : decode cX7_copyFrom 52 = .ok (.invokestatic 34, 3) := by decide +kernel
theorem dX7_copyFrom_55 : decode cX7_copyFrom 55 = .ok (.aload_n 1, 1) := by decide +kernel
theorem dX7_copyFrom_56 : decode cX7_copyFrom 56 = .ok (.getfield 31, 3) := by decide +kernel
theorem dX7_copyFrom_59 : decode cX7_copyFrom 59 = .ok (.iconst 0, 1) := by decide +kernel
theorem dX7_copyFrom_60 : decode cX7_copyFrom 60 = .ok (.aload_n 0, 1) := by decide +kernel
theorem dX7_copyFrom_61 : decode cX7_copyFrom 61 = .ok (.getfield 31, 3) := by decide +kernel
theorem dX7_copyFrom_64 : decode cX7_copyFrom 64 = .ok (.iconst 0, 1) := by decide +kernel
theorem dX7_copyFrom_65 : decode cX7_copyFrom 65 = .ok (.bipush 40, 2) := by decide +kernel
theorem dX7_copyFrom_67 : decode cX7_copyFrom 67 = .ok (.invokestatic 34, 3) := by decide +kernel
theorem dX7_copyFrom_70 : decode cX7_copyFrom 70 = .ok (.return_, 1) := by decide +kernel
theorem dX7_hasMoved_0 : decode cX7_hasMoved 0 = .ok (.aload_n 0, 1) := by decide +kernel
theorem dX7_hasMoved_1 : decode cX7_hasMoved 1 = .ok (.getfield 21, 3) := by decide +kernel
theorem dX7_hasMoved_4 : decode cX7_hasMoved 4 = .ok (.aload_n 0, 1) := by decide +kernel
theorem dX7_hasMoved_5 : decode cX7_hasMoved 5 = .ok (.getfield 18, 3) := by decide +kernel
theorem dX7_hasMoved_8 : decode cX7_hasMoved 8 = .ok (.if_icmp .eq 7, 3) := by decide +kernel
theorem dX7_hasMoved_11 : decode cX7_hasMoved 11 = .ok (.iconst 1, 1) := by decide +kernel
theorem dX7_hasMoved_12 : decode cX7_hasMoved 12 = .ok (.goto 4, 3) := by decide +kernel
theorem dX7_hasMoved_15 : decode cX7_hasMoved 15 = .ok (.iconst 0, 1) := by decide +kernel
theorem dX7_hasMoved_16 : decode cX7_hasMoved 16 = .ok (.ireturn, 1) := by decide +kernel
theorem dX7_cost_0 : decode cX7_cost 0 = .ok (.aload_n 0, 1) := by decide +kernel
theorem dX7_cost_1 : decode cX7_cost 1 = .ok (.getfield 21, 3) := by decide +kernel
theorem dX7_cost_4 : decode cX7_cost 4 = .ok (.bipush 40, 2) := by decide +kernel
theorem dX7_cost_6 : decode cX7_cost 6 = .ok (.idiv, 1) := by decide +kernel
theorem dX7_cost_7 : decode cX7_cost 7 = .ok (.istore_n 1, 1) := by decide +kernel
theorem dX7_cost_8 : decode cX7_cost 8 = .ok (.iload_n 1, 1) := by decide +kernel
theorem dX7_cost_9 : decode cX7_cost 9 = .ok (.aload_n 0, 1) := by decide +kernel
theorem dX7_cost_10 : decode cX7_cost 10 = .ok (.getfield 18, 3) := by decide +kernel
theorem dX7_cost_13 : decode cX7_cost 13 = .ok (.bipush 40, 2) := by decide +kernel
theorem dX7_cost_15 : decode cX7_cost 15 = .ok (.idiv, 1) := by decide +kernel
theorem dX7_cost_16 : decode cX7_cost 16 = .ok (.if_icmp .ne 7, 3) := by decide +kernel
theorem dX7_cost_19 : decode cX7_cost 19 = .ok (.iconst 1, 1) := by decide +kernel
theorem dX7_cost_20 : decode cX7_cost 20 = .ok (.goto 4, 3) := by decide +kernel
theorem dX7_cost_23 : decode cX7_cost 23 = .ok (.iconst 2, 1) := by decide +kernel
theorem dX7_cost_24 : decode cX7_cost 24 = .ok (.istore_n 2, 1) := by decide +kernel
theorem dX7_cost_25 : decode cX7_cost 25 = .ok (.iconst 0, 1) := by decide +kernel
theorem dX7_cost_26 : decode cX7_cost 26 = .ok (.istore_n 3, 1) := by decide +kernel
theorem dX7_cost_27 : decode cX7_cost 27 = .ok (.iload_n 3, 1) := by decide +kernel
theorem dX7_cost_28 : decode cX7_cost 28 = .ok (.aload_n 0, 1) := by decide +kernel
theorem dX7_cost_29 : decode cX7_cost 29 = .ok (.getfield 24, 3) := by decide +kernel
theorem dX7_cost_32 : decode cX7_cost 32 = .ok (.if_icmp .ge 34, 3) := by decide +kernel
theorem dX7_cost_35 : decode cX7_cost 35 = .ok (.aload_n 0, 1) := by decide +kernel
theorem dX7_cost_36 : decode cX7_cost 36 = .ok (.getfield 27, 3) := by decide +kernel
theorem dX7_cost_39 : decode cX7_cost 39 = .ok (.iload_n 3, 1) := by decide +kernel
theorem dX7_cost_40 : decode cX7_cost 40 = .ok (.invokestatic 40, 3) := by decide +kernel
theorem dX7_cost_43 : decode cX7_cost 43 = .ok (.bipush 40, 2) := by decide +kernel
theorem dX7_cost_45 : decode cX7_cost 45 = .ok (.idiv, 1) := by decide +kernel
theorem dX7_cost_46 : decode cX7_cost 46 = .ok (.istore 4, 2) := by decide +kernel
theorem dX7_cost_48 : decode cX7_cost 48 = .ok (.iload 4, 2) := by decide +kernel
theorem dX7_cost_50 : decode cX7_cost 50 = .ok (.iload_n 1, 1) := by decide +kernel
theorem dX7_cost_51 : decode cX7_cost 51 = .ok (.if_icmp .eq 6, 3) := by decide +kernel
theorem dX7_cost_54 : decode cX7_cost 54 = .ok (.iinc 2 1, 3) := by decide +kernel
theorem dX7_cost_57 : decode cX7_cost 57 = .ok (.iload 4, 2) := by decide +kernel
theorem dX7_cost_59 : decode cX7_cost 59 = .ok (.istore_n 1, 1) := by decide +kernel
theorem dX7_cost_60 : decode cX7_cost 60 = .ok (.iinc 3 1, 3) := by decide +kernel
theorem dX7_cost_63 : decode cX7_cost 63 = .ok (.goto (-36), 3) := by decide +kernel
theorem dX7_cost_66 : decode cX7_cost 66 = .ok (.iload_n 2, 1) := by decide +kernel
theorem dX7_cost_67 : decode cX7_cost 67 = .ok (.ireturn, 1) := by decide +kernel
theorem dX4_init_0 : decode cX4_init 0 = .ok (.aload_n 0, 1) := by decide +kernel
theorem dX4_init_1 : decode cX4_init 1 = .ok (.invokespecial 3, 3) := by decide +kernel
theorem dX4_init_4 : decode cX4_init 4 = .ok (.aload_n 0, 1) := by decide +kernel
theorem dX4_init_5 : decode cX4_init 5 = .ok (.new 9, 3) := by decide +kernel
theorem dX4_init_8 : decode cX4_init 8 = .ok (.dup, 1) := by decide +kernel
theorem dX4_init_9 : decode cX4_init 9 = .ok (.invokespecial 11, 3) := by decide +kernel
theorem dX4_init_12 : decode cX4_init 12 = .ok (.putfield 12, 3) := by decide +kernel
theorem dX4_init_15 : decode cX4_init 15 = .ok (.aload_n 0, 1) := by decide +kernel
theorem dX4_init_16 : decode cX4_init 16 = .ok (.new 16, 3) := by decide +kernel
theorem dX4_init_19 : decode cX4_init 19 = .ok (.dup, 1) := by decide +kernel
theorem dX4_init_20 : decode cX4_init 20 = .ok (.invokespecial 18, 3) := by decide +kernel
theorem dX4_init_23 : decode cX4_init 23 = .ok (.putfield 19, 3) := by decide +kernel
theorem dX4_init_26 : decode cX4_init 26 = .ok (.aload_n 0, 1) := by decide +kernel
theorem dX4_init_27 : decode cX4_init 27 = .ok (.iconst 2, 1) := by decide +kernel
theorem dX4_init_28 : decode cX4_init 28 = .ok (.anewarray 23, 3) := by decide +kernel
theorem dX4_init_31 : decode cX4_init 31 = .ok (.putfield 25, 3) := by decide +kernel
theorem dX4_init_34 : decode cX4_init 34 = .ok (.aload_n 0, 1) := by decide +kernel
theorem dX4_init_35 : decode cX4_init 35 = .ok (.new 23, 3) := by decide +kernel
theorem dX4_init_38 : decode cX4_init 38 = .ok (.dup, 1) := by decide +kernel
theorem dX4_init_39 : decode cX4_init 39 = .ok (.invokespecial 29, 3) := by decide +kernel
theorem dX4_init_42 : decode cX4_init 42 = .ok (.putfield 30, 3) := by decide +kernel
theorem dX4_init_45 : decode cX4_init 45 = .ok (.aload_n 0, 1) := by decide +kernel
theorem dX4_init_46 : decode cX4_init 46 = .ok (.new 23, 3) := by decide +kernel
theorem dX4_init_49 : decode cX4_init 49 = .ok (.dup, 1) := by decide +kernel
theorem dX4_init_50 : decode cX4_init 50 = .ok (.invokespecial 29, 3) := by decide +kernel
theorem dX4_init_53 : decode cX4_init 53 = .ok (.putfield 34, 3) := by decide +kernel
theorem dX4_init_56 : decode cX4_init 56 = .ok (.return_, 1) := by decide +kernel
theorem dX4_set_0 : decode cX4_set 0 = .ok (.iload_n 1, 1) := by decide +kernel
theorem dX4_set_1 : decode cX4_set 1 = .ok (.ifCond .ne 9, 3) := by decide +kernel
theorem dX4_set_4 : decode cX4_set 4 = .ok (.aload_n 0, 1) := by decide +kernel
theorem dX4_set_5 : decode cX4_set 5 = .ok (.iload_n 2, 1) := by decide +kernel
theorem dX4_set_6 : decode cX4_set 6 = .ok (.invokevirtual 37, 3) := by decide +kernel
theorem dX4_set_9 : decode cX4_set 9 = .ok (.ireturn, 1) := by decide +kernel
theorem dX4_set_10 : decode cX4_set 10 = .ok (.iload_n 1, 1) := by decide +kernel
theorem dX4_set_11 : decode cX4_set 11 = .ok (.iconst 1, 1) := by decide +kernel
theorem dX4_set_12 : decode cX4_set 12 = .ok (.if_icmp .ne 9, 3) := by decide +kernel
theorem dX4_set_15 : decode cX4_set 15 = .ok (.aload_n 0, 1) := by decide +kernel
theorem dX4_set_16 : decode cX4_set 16 = .ok (.iload_n 2, 1) := by decide +kernel
theorem dX4_set_17 : decode cX4_set 17 = .ok (.invokevirtual 41, 3) := by decide +kernel
theorem dX4_set_20 : decode cX4_set 20 = .ok (.ireturn, 1) := by decide +kernel
theorem dX4_set_21 : decode cX4_set 21 = .ok (.bipush (-2), 2) := by decide +kernel
theorem dX4_set_23 : decode cX4_set 23 = .ok (.ireturn, 1) := by decide +kernel
theorem dX4_setHead_0 : decode cX4_setHead 0 = .ok (.iload_n 1, 1) := by decide +kernel
theorem dX4_setHead_1 : decode cX4_setHead 1 = .ok (.ifCond .lt 9, 3) := by decide +kernel
theorem dX4_setHead_4 : decode cX4_setHead 4 = .ok (.iload_n 1, 1) := by decide +kernel
theorem dX4_setHead_5 : decode cX4_setHead 5 = .ok (.bipush 16, 2) := by decide +kernel
theorem dX4_setHead_7 : decode cX4_setHead 7 = .ok (.if_icmp .le 6, 3) := by decide +kernel
theorem dX4_setHead_10 : decode cX4_setHead 10 = .ok (.bipush (-2), 2) := by decide +kernel
theorem dX4_setHead_12 : decode cX4_setHead 12 = .ok (.ireturn, 1) := by decide +kernel
theorem dX4_setHead_13 : decode cX4_setHead 13 = .ok (.aload_n 0, 1) := by decide +kernel
theorem dX4_setHead_14 : decode cX4_setHead 14 = .ok (.getfield 19, 3) := by decide +kernel
theorem dX4_setHead_17 : decode cX4_setHead 17 = .ok (.aload_n 0, 1) := by decide +kernel
theorem dX4_setHead_18 : decode cX4_setHead 18 = .ok (.getfield 30, 3) := by decide +kernel
theorem dX4_setHead_21 : decode cX4_setHead 21 = .ok (.invokevirtual 44, 3) := by decide +kernel
theorem dX4_setHead_24 : decode cX4_setHead 24 = .ok (.aload_n 0, 1) := by decide +kernel
theorem dX4_setHead_25 : decode cX4_setHead 25 = .ok (.getfield 30, 3) := by decide +kernel
theorem dX4_setHead_28 : decode cX4_setHead 28 = .ok (.getfield 48, 3) := by decide +kernel
theorem dX4_setHead_31 : decode cX4_setHead 31 = .ok (.istore_n 2, 1) := by decide +kernel
theorem dX4_setHead_32 : decode cX4_setHead 32 = .ok (.aload_n 0, 1) := by decide +kernel
theorem dX4_setHead_33 : decode cX4_setHead 33 = .ok (.getfield 30, 3) := by decide +kernel
theorem dX4_setHead_36 : decode cX4_setHead 36 = .ok (.iload_n 1, 1) := by decide +kernel
theorem dX4_setHead_37 : decode cX4_setHead 37 = .ok (.putfield 48, 3) := by decide +kernel
theorem dX4_setHead_40 : decode cX4_setHead 40 = .ok (.iload_n 2, 1) := by decide +kernel
theorem dX4_setHead_41 : decode cX4_setHead 41 = .ok (.ireturn, 1) := by decide +kernel
theorem dX4_setPiece_0 : decode cX4_setPiece 0 = .ok (.iload_n 1, 1) := by decide +kernel
theorem dX4_setPiece_1 : decode cX4_setPiece 1 = .ok (.iconst 1, 1) := by decide +kernel
theorem dX4_setPiece_2 : decode cX4_setPiece 2 = .ok (.if_icmp .lt 9, 3) := by decide +kernel
theorem dX4_setPiece_5 : decode cX4_setPiece 5 = .ok (.iload_n 1, 1) := by decide +kernel
theorem dX4_setPiece_6 : decode cX4_setPiece 6 = .ok (.bipush 12, 2) := by decide +kernel
theorem dX4_setPiece_8 : decode cX4_setPiece 8 = .ok (.if_icmp .le 6, 3) := by decide +kernel
theorem dX4_setPiece_11 : decode cX4_setPiece 11 = .ok (.bipush (-2), 2) := by decide +kernel
theorem dX4_setPiece_13 : decode cX4_setPiece 13 = .ok (.ireturn, 1) := by decide +kernel
theorem dX4_setPiece_14 : decode cX4_setPiece 14 = .ok (.aload_n 0, 1) := by decide +kernel
theorem dX4_setPiece_15 : decode cX4_setPiece 15 = .ok (.getfield 19, 3) := by decide +kernel
theorem dX4_setPiece_18 : decode cX4_setPiece 18 = .ok (.aload_n 0, 1) := by decide +kernel
theorem dX4_setPiece_19 : decode cX4_setPiece 19 = .ok (.getfield 30, 3) := by decide +kernel
theorem dX4_setPiece_22 : decode cX4_setPiece 22 = .ok (.invokevirtual 44, 3) := by decide +kernel
theorem dX4_setPiece_25 : decode cX4_setPiece 25 = .ok (.aload_n 0, 1) := by decide +kernel
theorem dX4_setPiece_26 : decode cX4_setPiece 26 = .ok (.getfield 30, 3) := by decide +kernel
theorem dX4_setPiece_29 : decode cX4_setPiece 29 = .ok (.getfield 52, 3) := by decide +kernel
theorem dX4_setPiece_32 : decode cX4_setPiece 32 = .ok (.istore_n 2, 1) := by decide +kernel
theorem dX4_setPiece_33 : decode cX4_setPiece 33 = .ok (.aload_n 0, 1) := by decide +kernel
theorem dX4_setPiece_34 : decode cX4_setPiece 34 = .ok (.getfield 30, 3) := by decide +kernel
theorem dX4_setPiece_37 : decode cX4_setPiece 37 = .ok (.iload_n 1, 1) := by decide +kernel
theorem dX4_setPiece_38 : decode cX4_setPiece 38 = .ok (.putfield 52, 3) := by decide +kernel
theorem dX4_setPiece_41 : decode cX4_setPiece 41 = .ok (.iload_n 2, 1) := by decide +kernel
theorem dX4_setPiece_42 : decode cX4_setPiece 42 = .ok (.ireturn, 1) := by decide +kernel
theorem dX4_write_0 : decode cX4_write 0 = .ok (.aload_n 0, 1) := by decide +kernel
theorem dX4_write_1 : decode cX4_write 1 = .ok (.getfield 12, 3) := by decide +kernel
theorem dX4_write_4 : decode cX4_write 4 = .ok (.invokevirtual 55, 3) := by decide +kernel
theorem dX4_write_7 : decode cX4_write 7 = .ok (.iconst (-1), 1) := by decide +kernel
theorem dX4_write_8 : decode cX4_write 8 = .ok (.if_icmp .eq 6, 3) := by decide +kernel
theorem dX4_write_11 : decode cX4_write 11 = .ok (.bipush (-3), 2) := by decide +kernel
theorem dX4_write_13 : decode cX4_write 13 = .ok (.ireturn, 1) := by decide +kernel
theorem dX4_write_14 : decode cX4_write 14 = .ok (.aload_n 0, 1) := by decide +kernel
theorem dX4_write_15 : decode cX4_write 15 = .ok (.getfield 19, 3) := by decide +kernel
theorem dX4_write_18 : decode cX4_write 18 = .ok (.aload_n 0, 1) := by decide +kernel
theorem dX4_write_19 : decode cX4_write 19 = .ok (.getfield 30, 3) := by decide +kernel
theorem dX4_write_22 : decode cX4_write 22 = .ok (.invokevirtual 44, 3) := by decide +kernel
theorem dX4_write_25 : decode cX4_write 25 = .ok (.iconst 0, 1) := by decide +kernel
theorem dX4_write_26 : decode cX4_write 26 = .ok (.istore_n 1, 1) := by decide +kernel
theorem dX4_write_27 : decode cX4_write 27 = .ok (.iload_n 1, 1) := by decide +kernel
theorem dX4_write_28 : decode cX4_write 28 = .ok (.aload_n 0, 1) := by decide +kernel
theorem dX4_write_29 : decode cX4_write 29 = .ok (.getfield 12, 3) := by decide +kernel
theorem dX4_write_32 : decode cX4_write 32 = .ok (.getfield 59, 3) := by decide +kernel
theorem dX4_write_35 : decode cX4_write 35 = .ok (.if_icmp .ge 17, 3) := by decide +kernel
theorem dX4_write_38 : decode cX4_write 38 = .ok (.aload_n 0, 1) := by decide +kernel
theorem dX4_write_39 : decode cX4_write 39 = .ok (.iload_n 1, 1) := by decide +kernel
theorem dX4_write_40 : decode cX4_write 40 = .ok (.invokevirtual 62, 3) := by decide +kernel
theorem dX4_write_43 : decode cX4_write 43 = .ok (.ifCond .eq 9, 3) := by decide +kernel
theorem dX4_write_46 : decode cX4_write 46 = .ok (.iinc 1 1, 3) := by decide +kernel
theorem dX4_write_49 : decode cX4_write 49 = .ok (.goto (-22), 3) := by decide +kernel
theorem dX4_write_52 : decode cX4_write 52 = .ok (.aload_n 0, 1) := by decide +kernel
theorem dX4_write_53 : decode cX4_write 53 = .ok (.getfield 12, 3) := by decide +kernel
theorem dX4_write_56 : decode cX4_write 56 = .ok (.iconst 0, 1) := by decide +kernel
theorem dX4_write_57 : decode cX4_write 57 = .ok (.putfield 66, 3) := by decide +kernel
theorem dX4_write_60 : decode cX4_write 60 = .ok (.iload_n 1, 1) := by decide +kernel
theorem dX4_write_61 : decode cX4_write 61 = .ok (.ireturn, 1) := by decide +kernel
theorem dX4_writePadRow_0 : decode cX4_writePadRow 0 = .ok (.aload_n 0, 1) := by decide +kernel
theorem dX4_writePadRow_1 : decode cX4_writePadRow 1 = .ok (.getfield 34, 3) := by decide +kernel
theorem dX4_writePadRow_4 : decode cX4_writePadRow 4 = .ok (.aload_n 0, 1) := by decide +kernel
theorem dX4_writePadRow_5 : decode cX4_writePadRow 5 = .ok (.getfield 30, 3) := by decide +kernel
theorem dX4_writePadRow_8 : decode cX4_writePadRow 8 = .ok (.invokevirtual 69, 3) := by decide +kernel
theorem dX4_writePadRow_11 : decode cX4_writePadRow 11 = .ok (.aload_n 0, 1) := by decide +kernel
theorem dX4_writePadRow_12 : decode cX4_writePadRow 12 = .ok (.getfield 34, 3) := by decide +kernel
theorem dX4_writePadRow_15 : decode cX4_writePadRow 15 = .ok (.aload_n 0, 1) := by decide +kernel
theorem dX4_writePadRow_16 : decode cX4_writePadRow 16 = .ok (.getfield 12, 3) := by decide +kernel
theorem dX4_writePadRow_19 : decode cX4_writePadRow 19 = .ok (.getfield 72, 3) := by decide +kernel
theorem dX4_writePadRow_22 : decode cX4_writePadRow 22 = .ok (.iload_n 1, 1) := by decide +kernel
theorem dX4_writePadRow_23 : decode cX4_writePadRow 23 = .ok (.invokestatic 76, 3) := by decide +kernel
theorem dX4_writePadRow_26 : decode cX4_writePadRow 26 = .ok (.aload_n 0, 1) := by decide +kernel
theorem dX4_writePadRow_27 : decode cX4_writePadRow 27 = .ok (.getfield 12, 3) := by decide +kernel
theorem dX4_writePadRow_30 : decode cX4_writePadRow 30 = .ok (.getfield 80, 3) := by decide +kernel
theorem dX4_writePadRow_33 : decode cX4_writePadRow 33 = .ok (.iload_n 1, 1) := by decide +kernel
theorem dX4_writePadRow_34 : decode cX4_writePadRow 34 = .ok (.invokestatic 76, 3) := by decide +kernel
theorem dX4_writePadRow_37 : decode cX4_writePadRow 37 = .ok (.invokevirtual 83, 3) := by decide +kernel
theorem dX4_writePadRow_40 : decode cX4_writePadRow 40 = .ok (.astore_n 2, 1) := by decide +kernel
theorem dX4_writePadRow_41 : decode cX4_writePadRow 41 = .ok (.aload_n 2, 1) := by decide +kernel
theorem dX4_writePadRow_42 : decode cX4_writePadRow 42 = .ok (.ifnonnull 5, 3) := by decide +kernel
theorem dX4_writePadRow_45 : decode cX4_writePadRow 45 = .ok (.iconst 0, 1) := by decide +kernel
theorem dX4_writePadRow_46 : decode cX4_writePadRow 46 = .ok (.ireturn, 1) := by decide +kernel
theorem dX4_writePadRow_47 : decode cX4_writePadRow 47 = .ok (.aload_n 0, 1) := by decide +kernel
theorem dX4_writePadRow_48 : decode cX4_writePadRow 48 = .ok (.getfield 12, 3) := by decide +kernel
theorem dX4_writePadRow_51 : decode cX4_writePadRow 51 = .ok (.getfield 87, 3) := by decide +kernel
theorem dX4_writePadRow_54 : decode cX4_writePadRow 54 = .ok (.iload_n 1, 1) := by decide +kernel
theorem dX4_writePadRow_55 : decode cX4_writePadRow 55 = .ok (.invokestatic 76, 3) := by decide +kernel
theorem dX4_writePadRow_58 : decode cX4_writePadRow 58 = .ok (.istore_n 3, 1) := by decide +kernel
theorem dX4_writePadRow_59 : decode cX4_writePadRow 59 = .ok (.iconst 0, 1) := by decide +kernel
theorem dX4_writePadRow_60 : decode cX4_writePadRow 60 = .ok (.istore 4, 2) := by decide +kernel
theorem dX4_writePadRow_62 : decode cX4_writePadRow 62 = .ok (.iload 4, 2) := by decide +kernel
theorem dX4_writePadRow_64 : decode cX4_writePadRow 64 = .ok (.aload_n 2, 1) := by decide +kernel
theorem dX4_writePadRow_65 : decode cX4_writePadRow 65 = .ok (.getfield 90, 3) := by decide +kernel
theorem dX4_writePadRow_68 : decode cX4_writePadRow 68 = .ok (.if_icmp .ge 35, 3) := by decide +kernel
theorem dX4_writePadRow_71 : decode cX4_writePadRow 71 = .ok (.aload_n 2, 1) := by decide +kernel
theorem dX4_writePadRow_72 : decode cX4_writePadRow 72 = .ok (.getfield 95, 3) := by decide +kernel
theorem dX4_writePadRow_75 : decode cX4_writePadRow 75 = .ok (.iload 4, 2) := by decide +kernel
theorem dX4_writePadRow_77 : decode cX4_writePadRow 77 = .ok (.aload_n 0, 1) := by decide +kernel
theorem dX4_writePadRow_78 : decode cX4_writePadRow 78 = .ok (.getfield 12, 3) := by decide +kernel
theorem dX4_writePadRow_81 : decode cX4_writePadRow 81 = .ok (.getfield 98, 3) := by decide +kernel
theorem dX4_writePadRow_84 : decode cX4_writePadRow 84 = .ok (.iload_n 3, 1) := by decide +kernel
theorem dX4_writePadRow_85 : decode cX4_writePadRow 85 = .ok (.iload 4, 2) := by decide +kernel
theorem dX4_writePadRow_87 : decode cX4_writePadRow 87 = .ok (.iadd, 1) := by decide +kernel
theorem dX4_writePadRow_88 : decode cX4_writePadRow 88 = .ok (.invokestatic 76, 3) := by decide +kernel
theorem dX4_writePadRow_91 : decode cX4_writePadRow 91 = .ok (.bipush 97, 2) := by decide +kernel
theorem dX4_writePadRow_93 : decode cX4_writePadRow 93 = .ok (.isub, 1) := by decide +kernel
theorem dX4_writePadRow_94 : decode cX4_writePadRow 94 = .ok (.invokestatic 101, 3) := by decide +kernel
theorem dX4_writePadRow_97 : decode cX4_writePadRow 97 = .ok (.iinc 4 1, 3) := by decide +kernel
theorem dX4_writePadRow_100 : decode cX4_writePadRow 100 = .ok (.goto (-38), 3) := by decide +kernel
theorem dX4_writePadRow_103 : decode cX4_writePadRow 103 = .ok (.aload_n 0, 1) := by decide +kernel
theorem dX4_writePadRow_104 : decode cX4_writePadRow 104 = .ok (.invokevirtual 105, 3) := by decide +kernel
theorem dX4_writePadRow_107 : decode cX4_writePadRow 107 = .ok (.iconst 1, 1) := by decide +kernel
theorem dX4_writePadRow_108 : decode cX4_writePadRow 108 = .ok (.ireturn, 1) := by decide +kernel
theorem dX4_append_0 : decode cX4_append 0 = .ok (.aload_n 0, 1) := by decide +kernel
theorem dX4_append_1 : decode cX4_append 1 = .ok (.getfield 30, 3) := by decide +kernel
theorem dX4_append_4 : decode cX4_append 4 = .ok (.iload_n 1, 1) := by decide +kernel
theorem dX4_append_5 : decode cX4_append 5 = .ok (.invokevirtual 108, 3) := by decide +kernel
theorem dX4_append_8 : decode cX4_append 8 = .ok (.astore_n 3, 1) := by decide +kernel
theorem dX4_append_9 : decode cX4_append 9 = .ok (.aload_n 3, 1) := by decide +kernel
theorem dX4_append_10 : decode cX4_append 10 = .ok (.ifnonnull 5, 3) := by decide +kernel
theorem dX4_append_13 : decode cX4_append 13 = .ok (.iconst (-1), 1) := by decide +kernel
theorem dX4_append_14 : decode cX4_append 14 = .ok (.ireturn, 1) := by decide +kernel
theorem dX4_append_15 : decode cX4_append 15 = .ok (.iload_n 2, 1) := by decide +kernel
theorem dX4_append_16 : decode cX4_append 16 = .ok (.ifCond .lt 9, 3) := by decide +kernel
theorem dX4_append_19 : decode cX4_append 19 = .ok (.iload_n 2, 1) := by decide +kernel
theorem dX4_append_20 : decode cX4_append 20 = .ok (.bipush 26, 2) := by decide +kernel
theorem dX4_append_22 : decode cX4_append 22 = .ok (.if_icmp .lt 6, 3) := by decide +kernel
theorem dX4_append_25 : decode cX4_append 25 = .ok (.bipush (-2), 2) := by decide +kernel
theorem dX4_append_27 : decode cX4_append 27 = .ok (.ireturn, 1) := by decide +kernel
theorem dX4_append_28 : decode cX4_append 28 = .ok (.aload_n 3, 1) := by decide +kernel
theorem dX4_append_29 : decode cX4_append 29 = .ok (.getfield 90, 3) := by decide +kernel
theorem dX4_append_32 : decode cX4_append 32 = .ok (.istore 4, 2) := by decide +kernel
theorem dX4_append_34 : decode cX4_append 34 = .ok (.iload 4, 2) := by decide +kernel
theorem dX4_append_36 : decode cX4_append 36 = .ok (.bipush 40, 2) := by decide +kernel
theorem dX4_append_38 : decode cX4_append 38 = .ok (.if_icmp .lt 6, 3) := by decide +kernel
theorem dX4_append_41 : decode cX4_append 41 = .ok (.bipush (-4), 2) := by decide +kernel
theorem dX4_append_43 : decode cX4_append 43 = .ok (.ireturn, 1) := by decide +kernel
theorem dX4_append_44 : decode cX4_append 44 = .ok (.aload_n 0, 1) := by decide +kernel
theorem dX4_append_45 : decode cX4_append 45 = .ok (.getfield 34, 3) := by decide +kernel
theorem dX4_append_48 : decode cX4_append 48 = .ok (.aload_n 0, 1) := by decide +kernel
theorem dX4_append_49 : decode cX4_append 49 = .ok (.getfield 30, 3) := by decide +kernel
theorem dX4_append_52 : decode cX4_append 52 = .ok (.invokevirtual 69, 3) := by decide +kernel
theorem dX4_append_55 : decode cX4_append 55 = .ok (.aload_n 0, 1) := by decide +kernel
theorem dX4_append_56 : decode cX4_append 56 = .ok (.getfield 34, 3) := by decide +kernel
theorem dX4_append_59 : decode cX4_append 59 = .ok (.iload_n 1, 1) := by decide +kernel
theorem dX4_append_60 : decode cX4_append 60 = .ok (.iload 4, 2) := by decide +kernel
theorem dX4_append_62 : decode cX4_append 62 = .ok (.iconst 1, 1) := by decide +kernel
theorem dX4_append_63 : decode cX4_append 63 = .ok (.iadd, 1) := by decide +kernel
theorem dX4_append_64 : decode cX4_append 64 = .ok (.invokevirtual 83, 3) := by decide +kernel
theorem dX4_append_67 : decode cX4_append 67 = .ok (.astore 5, 2) := by decide +kernel
theorem dX4_append_69 : decode cX4_append 69 = .ok (.aload 5, 2) := by decide +kernel
theorem dX4_append_71 : decode cX4_append 71 = .ok (.ifnonnull 6, 3) := by decide +kernel
theorem dX4_append_74 : decode cX4_append 74 = .ok (.bipush (-5), 2) := by decide +kernel
theorem dX4_append_76 : decode cX4_append 76 = .ok (.ireturn, 1) := by decide +kernel
theorem dX4_append_77 : decode cX4_append 77 = .ok (.aload 5, 2) := by decide +kernel
theorem dX4_append_79 : decode cX4_append 79 = .ok (.getfield 95, 3) := by decide +kernel
theorem dX4_append_82 : decode cX4_append 82 = .ok (.iload 4, 2) := by decide +kernel
theorem dX4_append_84 : decode cX4_append 84 = .ok (.iload_n 2, 1) := by decide +kernel
theorem dX4_append_85 : decode cX4_append 85 = .ok (.invokestatic 101, 3) := by decide +kernel
theorem dX4_append_88 : decode cX4_append 88 = .ok (.aload_n 0, 1) := by decide +kernel
theorem dX4_append_89 : decode cX4_append 89 = .ok (.getfield 19, 3) := by decide +kernel
theorem dX4_append_92 : decode cX4_append 92 = .ok (.aload_n 0, 1) := by decide +kernel
theorem dX4_append_93 : decode cX4_append 93 = .ok (.getfield 30, 3) := by decide +kernel
theorem dX4_append_96 : decode cX4_append 96 = .ok (.invokevirtual 44, 3) := by decide +kernel
theorem dX4_append_99 : decode cX4_append 99 = .ok (.aload_n 0, 1) := by decide +kernel
theorem dX4_append_100 : decode cX4_append 100 = .ok (.invokevirtual 105, 3) := by decide +kernel
theorem dX4_append_103 : decode cX4_append 103 = .ok (.iload 4, 2) := by decide +kernel
theorem dX4_append_105 : decode cX4_append 105 = .ok (.iconst 1, 1) := by decide +kernel
theorem dX4_append_106 : decode cX4_append 106 = .ok (.iadd, 1) := by decide +kernel
theorem dX4_append_107 : decode cX4_append 107 = .ok (.ireturn, 1) := by decide +kernel
theorem dX4_delete_0 : decode cX4_delete 0 = .ok (.aload_n 0, 1) := by decide +kernel
theorem dX4_delete_1 : decode cX4_delete 1 = .ok (.getfield 30, 3) := by decide +kernel
theorem dX4_delete_4 : decode cX4_delete 4 = .ok (.iload_n 1, 1) := by decide +kernel
theorem dX4_delete_5 : decode cX4_delete 5 = .ok (.invokevirtual 108, 3) := by decide +kernel
theorem dX4_delete_8 : decode cX4_delete 8 = .ok (.astore_n 2, 1) := by decide +kernel
theorem dX4_delete_9 : decode cX4_delete 9 = .ok (.aload_n 2, 1) := by decide +kernel
theorem dX4_delete_10 : decode cX4_delete 10 = .ok (.ifnonnull 5, 3) := by decide +kernel
theorem dX4_delete_13 : decode cX4_delete 13 = .ok (.iconst (-1), 1) := by decide +kernel
theorem dX4_delete_14 : decode cX4_delete 14 = .ok (.ireturn, 1) := by decide +kernel
theorem dX4_delete_15 : decode cX4_delete 15 = .ok (.aload_n 0, 1) := by decide +kernel
theorem dX4_delete_16 : decode cX4_delete 16 = .ok (.getfield 19, 3) := by decide +kernel
theorem dX4_delete_19 : decode cX4_delete 19 = .ok (.aload_n 0, 1) := by decide +kernel
theorem dX4_delete_20 : decode cX4_delete 20 = .ok (.getfield 30, 3) := by decide +kernel
theorem dX4_delete_23 : decode cX4_delete 23 = .ok (.invokevirtual 44, 3) := by decide +kernel
theorem dX4_delete_26 : decode cX4_delete 26 = .ok (.aload_n 0, 1) := by decide +kernel
theorem dX4_delete_27 : decode cX4_delete 27 = .ok (.getfield 30, 3) := by decide +kernel
theorem dX4_delete_30 : decode cX4_delete 30 = .ok (.aload_n 2, 1) := by decide +kernel
theorem dX4_delete_31 : decode cX4_delete 31 = .ok (.invokevirtual 112, 3) := by decide +kernel
theorem dX4_delete_34 : decode cX4_delete 34 = .ok (.istore_n 3, 1) := by decide +kernel
theorem dX4_delete_35 : decode cX4_delete 35 = .ok (.aload_n 0, 1) := by decide +kernel
theorem dX4_delete_36 : decode cX4_delete 36 = .ok (.getfield 30, 3) := by decide +kernel
theorem dX4_delete_39 : decode cX4_delete 39 = .ok (.aload_n 2, 1) := by decide +kernel
theorem dX4_delete_40 : decode cX4_delete 40 = .ok (.invokevirtual 116, 3) := by decide +kernel
theorem dX4_delete_43 : decode cX4_delete 43 = .ok (.iload_n 3, 1) := by decide +kernel
theorem dX4_delete_44 : decode cX4_delete 44 = .ok (.ireturn, 1) := by decide +kernel
theorem dX4_pack_0 : decode cX4_pack 0 = .ok (.aload_n 0, 1) := by decide +kernel
theorem dX4_pack_1 : decode cX4_pack 1 = .ok (.aload_n 0, 1) := by decide +kernel
theorem dX4_pack_2 : decode cX4_pack 2 = .ok (.getfield 30, 3) := by decide +kernel
theorem dX4_pack_5 : decode cX4_pack 5 = .ok (.getfield 48, 3) := by decide +kernel
theorem dX4_pack_8 : decode cX4_pack 8 = .ok (.invokevirtual 120, 3) := by decide +kernel
theorem dX4_pack_11 : decode cX4_pack 11 = .ok (.ifCond .ne 6, 3) := by decide +kernel
theorem dX4_pack_14 : decode cX4_pack 14 = .ok (.bipush (-5), 2) := by decide +kernel
theorem dX4_pack_16 : decode cX4_pack 16 = .ok (.ireturn, 1) := by decide +kernel
theorem dX4_pack_17 : decode cX4_pack 17 = .ok (.aload_n 0, 1) := by decide +kernel
theorem dX4_pack_18 : decode cX4_pack 18 = .ok (.getfield 19, 3) := by decide +kernel
theorem dX4_pack_21 : decode cX4_pack 21 = .ok (.aload_n 0, 1) := by decide +kernel
theorem dX4_pack_22 : decode cX4_pack 22 = .ok (.getfield 30, 3) := by decide +kernel
theorem dX4_pack_25 : decode cX4_pack 25 = .ok (.invokevirtual 44, 3) := by decide +kernel
theorem dX4_pack_28 : decode cX4_pack 28 = .ok (.aload_n 0, 1) := by decide +kernel
theorem dX4_pack_29 : decode cX4_pack 29 = .ok (.invokevirtual 105, 3) := by decide +kernel
theorem dX4_pack_32 : decode cX4_pack 32 = .ok (.aload_n 0, 1) := by decide +kernel
theorem dX4_pack_33 : decode cX4_pack 33 = .ok (.getfield 30, 3) := by decide +kernel
theorem dX4_pack_36 : decode cX4_pack 36 = .ok (.getfield 123, 3) := by decide +kernel
theorem dX4_pack_39 : decode cX4_pack 39 = .ok (.invokevirtual 127, 3) := by decide +kernel
theorem dX4_pack_42 : decode cX4_pack 42 = .ok (.ireturn, 1) := by decide +kernel
theorem dX4_tryPacking_0 : decode cX4_tryPacking 0 = .ok (.aload_n 0, 1) := by decide +kernel
theorem dX4_tryPacking_1 : decode cX4_tryPacking 1 = .ok (.getfield 34, 3) := by decide +kernel
theorem dX4_tryPacking_4 : decode cX4_tryPacking 4 = .ok (.aload_n 0, 1) := by decide +kernel
theorem dX4_tryPacking_5 : decode cX4_tryPacking 5 = .ok (.getfield 30, 3) := by decide +kernel
theorem dX4_tryPacking_8 : decode cX4_tryPacking 8 = .ok (.invokevirtual 69, 3) := by decide +kernel
theorem dX4_tryPacking_11 : decode cX4_tryPacking 11 = .ok (.aload_n 0, 1) := by decide +kernel
theorem dX4_tryPacking_12 : decode cX4_tryPacking 12 = .ok (.getfield 34, 3) := by decide +kernel
theorem dX4_tryPacking_15 : decode cX4_tryPacking 15 = .ok (.iload_n 1, 1) := by decide +kernel
theorem dX4_tryPacking_16 : decode cX4_tryPacking 16 = .ok (.putfield 48, 3) := by decide +kernel
theorem dX4_tryPacking_19 : decode cX4_tryPacking 19 = .ok (.aload_n 0, 1) := by decide +kernel
theorem dX4_tryPacking_20 : decode cX4_tryPacking 20 = .ok (.getfield 34, 3) := by decide +kernel
theorem dX4_tryPacking_23 : decode cX4_tryPacking 23 = .ok (.invokevirtual 132, 3) := by decide +kernel
theorem dX4_tryPacking_26 : decode cX4_tryPacking 26 = .ok (.ireturn, 1) := by decide +kernel
theorem dX4_takeTrial_0 : decode cX4_takeTrial 0 = .ok (.aload_n 0, 1) := by decide +kernel
theorem dX4_takeTrial_1 : decode cX4_takeTrial 1 = .ok (.getfield 30, 3) := by decide +kernel
theorem dX4_takeTrial_4 : decode cX4_takeTrial 4 = .ok (.astore_n 1, 1) := by decide +kernel
theorem dX4_takeTrial_5 : decode cX4_takeTrial 5 = .ok (.aload_n 0, 1) := by decide +kernel
theorem dX4_takeTrial_6 : decode cX4_takeTrial 6 = .ok (.aload_n 0, 1) := by decide +kernel
theorem dX4_takeTrial_7 : decode cX4_takeTrial 7 = .ok (.getfield 34, 3) := by decide +kernel
theorem dX4_takeTrial_10 : decode cX4_takeTrial 10 = .ok (.putfield 30, 3) := by decide +kernel
theorem dX4_takeTrial_13 : decode cX4_takeTrial 13 = .ok (.aload_n 0, 1) := by decide +kernel
theorem dX4_takeTrial_14 : decode cX4_takeTrial 14 = .ok (.aload_n 1, 1) := by decide +kernel
theorem dX4_takeTrial_15 : decode cX4_takeTrial 15 = .ok (.putfield 34, 3) := by decide +kernel
theorem dX4_takeTrial_18 : decode cX4_takeTrial 18 = .ok (.return_, 1) := by decide +kernel
theorem dX4_row_0 : decode cX4_row 0 = .ok (.aload_n 0, 1) := by decide +kernel
theorem dX4_row_1 : decode cX4_row 1 = .ok (.getfield 30, 3) := by decide +kernel
theorem dX4_row_4 : decode cX4_row 4 = .ok (.iload_n 1, 1) := by decide +kernel
theorem dX4_row_5 : decode cX4_row 5 = .ok (.invokevirtual 108, 3) := by decide +kernel
theorem dX4_row_8 : decode cX4_row 8 = .ok (.astore_n 3, 1) := by decide +kernel
theorem dX4_row_9 : decode cX4_row 9 = .ok (.aload_n 3, 1) := by decide +kernel
theorem dX4_row_10 : decode cX4_row 10 = .ok (.ifnonnull 5, 3) := by decide +kernel
theorem dX4_row_13 : decode cX4_row 13 = .ok (.iconst (-1), 1) := by decide +kernel
theorem dX4_row_14 : decode cX4_row 14 = .ok (.ireturn, 1) := by decide +kernel
theorem dX4_row_15 : decode cX4_row 15 = .ok (.iload_n 2, 1) := by decide +kernel
theorem dX4_row_16 : decode cX4_row 16 = .ok (.tableswitch 145 0 9 #[56, 61, 69, 77, 85, 93, 106, 126, 131, 136], 56) := by decide +kernel
theorem dX4_row_72 : decode cX4_row 72 = .ok (.aload_n 3, 1) := by decide +kernel
theorem dX4_row_73 : decode cX4_row 73 = .ok (.getfield 90, 3) := by decide +kernel
theorem dX4_row_76 : decode cX4_row 76 = .ok (.ireturn, 1) := by decide +kernel
theorem dX4_row_77 : decode cX4_row 77 = .ok (.aload_n 3, 1) := by decide +kernel
theorem dX4_row_78 : decode cX4_row 78 = .ok (.getfield 136, 3) := by decide +kernel
theorem dX4_row_81 : decode cX4_row 81 = .ok (.bipush 40, 2) := by decide +kernel
theorem dX4_row_83 : decode cX4_row 83 = .ok (.idiv, 1) := by decide +kernel
theorem dX4_row_84 : decode cX4_row 84 = .ok (.ireturn, 1) := by decide +kernel
theorem dX4_row_85 : decode cX4_row 85 = .ok (.aload_n 3, 1) := by decide +kernel
theorem dX4_row_86 : decode cX4_row 86 = .ok (.getfield 136, 3) := by decide +kernel
theorem dX4_row_89 : decode cX4_row 89 = .ok (.bipush 40, 2) := by decide +kernel
theorem dX4_row_91 : decode cX4_row 91 = .ok (.irem, 1) := by decide +kernel
theorem dX4_row_92 : decode cX4_row 92 = .ok (.ireturn, 1) := by decide +kernel
theorem dX4_row_93 : decode cX4_row 93 = .ok (.aload_n 3, 1) := by decide +kernel
theorem dX4_row_94 : decode cX4_row 94 = .ok (.getfield 139, 3) := by decide +kernel
theorem dX4_row_97 : decode cX4_row 97 = .ok (.bipush 40, 2) := by decide +kernel
theorem dX4_row_99 : decode cX4_row 99 = .ok (.idiv, 1) := by decide +kernel
theorem dX4_row_100 : decode cX4_row 100 = .ok (.ireturn, 1) := by decide +kernel
theorem dX4_row_101 : decode cX4_row 101 = .ok (.aload_n 3, 1) := by decide +kernel
theorem dX4_row_102 : decode cX4_row 102 = .ok (.getfield 139, 3) := by decide +kernel
theorem dX4_row_105 : decode cX4_row 105 = .ok (.bipush 40, 2) := by decide +kernel
theorem dX4_row_107 : decode cX4_row 107 = .ok (.irem, 1) := by decide +kernel
theorem dX4_row_108 : decode cX4_row 108 = .ok (.ireturn, 1) := by decide +kernel
theorem dX4_row_109 : decode cX4_row 109 = .ok (.aload_n 3, 1) := by decide +kernel
theorem dX4_row_110 : decode cX4_row 110 = .ok (.invokevirtual 142, 3) := by decide +kernel
theorem dX4_row_113 : decode cX4_row 113 = .ok (.ifCond .eq 7, 3) := by decide +kernel
theorem dX4_row_116 : decode cX4_row 116 = .ok (.iconst 1, 1) := by decide +kernel
theorem dX4_row_117 : decode cX4_row 117 = .ok (.goto 4, 3) := by decide +kernel
theorem dX4_row_120 : decode cX4_row 120 = .ok (.iconst 0, 1) := by decide +kernel
theorem dX4_row_121 : decode cX4_row 121 = .ok (.ireturn, 1) := by decide +kernel
theorem dX4_row_122 : decode cX4_row 122 = .ok (.aload_n 0, 1) := by decide +kernel
theorem dX4_row_123 : decode cX4_row 123 = .ok (.getfield 30, 3) := by decide +kernel
theorem dX4_row_126 : decode cX4_row 126 = .ok (.getfield 123, 3) := by decide +kernel
theorem dX4_row_129 : decode cX4_row 129 = .ok (.getfield 145, 3) := by decide +kernel
theorem dX4_row_132 : decode cX4_row 132 = .ok (.aload_n 3, 1) := by decide +kernel
theorem dX4_row_133 : decode cX4_row 133 = .ok (.getfield 139, 3) := by decide +kernel
theorem dX4_row_136 : decode cX4_row 136 = .ok (.invokestatic 76, 3) := by decide +kernel
theorem dX4_row_139 : decode cX4_row 139 = .ok (.iconst 2, 1) := by decide +kernel
theorem dX4_row_140 : decode cX4_row 140 = .ok (.isub, 1) := by decide +kernel
theorem dX4_row_141 : decode cX4_row 141 = .ok (.ireturn, 1) := by decide +kernel
theorem dX4_row_142 : decode cX4_row 142 = .ok (.aload_n 3, 1) := by decide +kernel
theorem dX4_row_143 : decode cX4_row 143 = .ok (.getfield 148, 3) := by decide +kernel
theorem dX4_row_146 : decode cX4_row 146 = .ok (.ireturn, 1) := by decide +kernel
theorem dX4_row_147 : decode cX4_row 147 = .ok (.aload_n 3, 1) := by decide +kernel
theorem dX4_row_148 : decode cX4_row 148 = .ok (.invokevirtual 151, 3) := by decide +kernel
theorem dX4_row_151 : decode cX4_row 151 = .ok (.ireturn, 1) := by decide +kernel
theorem dX4_row_152 : decode cX4_row 152 = .ok (.aload_n 0, 1) := by decide +kernel
theorem dX4_row_153 : decode cX4_row 153 = .ok (.getfield 30, 3) := by decide +kernel
theorem dX4_row_156 : decode cX4_row 156 = .ok (.aload_n 3, 1) := by decide +kernel
theorem dX4_row_157 : decode cX4_row 157 = .ok (.invokevirtual 112, 3) := by decide +kernel
theorem dX4_row_160 : decode cX4_row 160 = .ok (.ireturn, 1) := by decide +kernel
theorem dX4_row_161 : decode cX4_row 161 = .ok (.bipush (-2), 2) := by decide +kernel
theorem dX4_row_163 : decode cX4_row 163 = .ok (.ireturn, 1) := by decide +kernel
theorem dX4_letter_0 : decode cX4_letter 0 = .ok (.aload_n 0, 1) := by decide +kernel
theorem dX4_letter_1 : decode cX4_letter 1 = .ok (.getfield 30, 3) := by decide +kernel
theorem dX4_letter_4 : decode cX4_letter 4 = .ok (.iload_n 1, 1) := by decide +kernel
theorem dX4_letter_5 : decode cX4_letter 5 = .ok (.invokevirtual 108, 3) := by decide +kernel
theorem dX4_letter_8 : decode cX4_letter 8 = .ok (.astore_n 3, 1) := by decide +kernel
theorem dX4_letter_9 : decode cX4_letter 9 = .ok (.aload_n 3, 1) := by decide +kernel
theorem dX4_letter_10 : decode cX4_letter 10 = .ok (.ifnull 15, 3) := by decide +kernel
theorem dX4_letter_13 : decode cX4_letter 13 = .ok (.iload_n 2, 1) := by decide +kernel
theorem dX4_letter_14 : decode cX4_letter 14 = .ok (.ifCond .lt 11, 3) := by decide +kernel
theorem dX4_letter_17 : decode cX4_letter 17 = .ok (.iload_n 2, 1) := by decide +kernel
theorem dX4_letter_18 : decode cX4_letter 18 = .ok (.aload_n 3, 1) := by decide +kernel
theorem dX4_letter_19 : decode cX4_letter 19 = .ok (.getfield 90, 3) := by decide +kernel
theorem dX4_letter_22 : decode cX4_letter 22 = .ok (.if_icmp .lt 5, 3) := by decide +kernel
theorem dX4_letter_25 : decode cX4_letter 25 = .ok (.iconst (-1), 1) := by decide +kernel
theorem dX4_letter_26 : decode cX4_letter 26 = .ok (.ireturn, 1) := by decide +kernel
theorem dX4_letter_27 : decode cX4_letter 27 = .ok (.aload_n 3, 1) := by decide +kernel
theorem dX4_letter_28 : decode cX4_letter 28 = .ok (.getfield 95, 3) := by decide +kernel
theorem dX4_letter_31 : decode cX4_letter 31 = .ok (.iload_n 2, 1) := by decide +kernel
theorem dX4_letter_32 : decode cX4_letter 32 = .ok (.invokestatic 76, 3) := by decide +kernel
theorem dX4_letter_35 : decode cX4_letter 35 = .ok (.ireturn, 1) := by decide +kernel
theorem dX4_piece_0 : decode cX4_piece 0 = .ok (.aload_n 0, 1) := by decide +kernel
theorem dX4_piece_1 : decode cX4_piece 1 = .ok (.getfield 30, 3) := by decide +kernel
theorem dX4_piece_4 : decode cX4_piece 4 = .ok (.iload_n 1, 1) := by decide +kernel
theorem dX4_piece_5 : decode cX4_piece 5 = .ok (.invokevirtual 108, 3) := by decide +kernel
theorem dX4_piece_8 : decode cX4_piece 8 = .ok (.astore 4, 2) := by decide +kernel
theorem dX4_piece_10 : decode cX4_piece 10 = .ok (.aload 4, 2) := by decide +kernel
theorem dX4_piece_12 : decode cX4_piece 12 = .ok (.ifnull 16, 3) := by decide +kernel
theorem dX4_piece_15 : decode cX4_piece 15 = .ok (.iload_n 2, 1) := by decide +kernel
theorem dX4_piece_16 : decode cX4_piece 16 = .ok (.ifCond .lt 12, 3) := by decide +kernel
theorem dX4_piece_19 : decode cX4_piece 19 = .ok (.iload_n 2, 1) := by decide +kernel
theorem dX4_piece_20 : decode cX4_piece 20 = .ok (.aload 4, 2) := by decide +kernel
theorem dX4_piece_22 : decode cX4_piece 22 = .ok (.getfield 148, 3) := by decide +kernel
theorem dX4_piece_25 : decode cX4_piece 25 = .ok (.if_icmp .lt 5, 3) := by decide +kernel
theorem dX4_piece_28 : decode cX4_piece 28 = .ok (.iconst (-1), 1) := by decide +kernel
theorem dX4_piece_29 : decode cX4_piece 29 = .ok (.ireturn, 1) := by decide +kernel
theorem dX4_piece_30 : decode cX4_piece 30 = .ok (.aload 4, 2) := by decide +kernel
theorem dX4_piece_32 : decode cX4_piece 32 = .ok (.getfield 154, 3) := by decide +kernel
theorem dX4_piece_35 : decode cX4_piece 35 = .ok (.iload_n 2, 1) := by decide +kernel
theorem dX4_piece_36 : decode cX4_piece 36 = .ok (.invokestatic 76, 3) := by decide +kernel
theorem dX4_piece_39 : decode cX4_piece 39 = .ok (.istore 5, 2) := by decide +kernel
theorem dX4_piece_41 : decode cX4_piece 41 = .ok (.iload_n 3, 1) := by decide +kernel
theorem dX4_piece_42 : decode cX4_piece 42 = .ok (.tableswitch 56 0 2 #[26, 32, 38], 26) := by decide +kernel
theorem dX4_piece_68 : decode cX4_piece 68 = .ok (.iload 5, 2) := by decide +kernel
theorem dX4_piece_70 : decode cX4_piece 70 = .ok (.bipush 40, 2) := by decide +kernel
theorem dX4_piece_72 : decode cX4_piece 72 = .ok (.idiv, 1) := by decide +kernel
theorem dX4_piece_73 : decode cX4_piece 73 = .ok (.ireturn, 1) := by decide +kernel
theorem dX4_piece_74 : decode cX4_piece 74 = .ok (.iload 5, 2) := by decide +kernel
theorem dX4_piece_76 : decode cX4_piece 76 = .ok (.bipush 40, 2) := by decide +kernel
theorem dX4_piece_78 : decode cX4_piece 78 = .ok (.irem, 1) := by decide +kernel
theorem dX4_piece_79 : decode cX4_piece 79 = .ok (.ireturn, 1) := by decide +kernel
theorem dX4_piece_80 : decode cX4_piece 80 = .ok (.aload_n 0, 1) := by decide +kernel
theorem dX4_piece_81 : decode cX4_piece 81 = .ok (.getfield 30, 3) := by decide +kernel
theorem dX4_piece_84 : decode cX4_piece 84 = .ok (.getfield 123, 3) := by decide +kernel
theorem dX4_piece_87 : decode cX4_piece 87 = .ok (.getfield 145, 3) := by decide +kernel
theorem dX4_piece_90 : decode cX4_piece 90 = .ok (.iload 5, 2) := by decide +kernel
theorem dX4_piece_92 : decode cX4_piece 92 = .ok (.invokestatic 76, 3) := by decide +kernel
theorem dX4_piece_95 : decode cX4_piece 95 = .ok (.iconst 1, 1) := by decide +kernel
theorem dX4_piece_96 : decode cX4_piece 96 = .ok (.isub, 1) := by decide +kernel
theorem dX4_piece_97 : decode cX4_piece 97 = .ok (.ireturn, 1) := by decide +kernel
theorem dX4_piece_98 : decode cX4_piece 98 = .ok (.bipush (-2), 2) := by decide +kernel
theorem dX4_piece_100 : decode cX4_piece 100 = .ok (.ireturn, 1) := by decide +kernel
theorem dX4_page_0 : decode cX4_page 0 = .ok (.iload_n 1, 1) := by decide +kernel
theorem dX4_page_1 : decode cX4_page 1 = .ok (.ifCond .lt 9, 3) := by decide +kernel
theorem dX4_page_4 : decode cX4_page 4 = .ok (.iload_n 1, 1) := by decide +kernel
theorem dX4_page_5 : decode cX4_page 5 = .ok (.bipush 10, 2) := by decide +kernel
theorem dX4_page_7 : decode cX4_page 7 = .ok (.if_icmp .lt 5, 3) := by decide +kernel
theorem dX4_page_10 : decode cX4_page 10 = .ok (.iconst (-1), 1) := by decide +kernel
theorem dX4_page_11 : decode cX4_page 11 = .ok (.ireturn, 1) := by decide +kernel
theorem dX4_page_12 : decode cX4_page 12 = .ok (.iload_n 2, 1) := by decide +kernel
theorem dX4_page_13 : decode cX4_page 13 = .ok (.tableswitch 118 0 5 #[39, 54, 66, 79, 92, 105], 39) := by decide +kernel
theorem dX4_page_52 : decode cX4_page 52 = .ok (.aload_n 0, 1) := by decide +kernel
theorem dX4_page_53 : decode cX4_page 53 = .ok (.getfield 30, 3) := by decide +kernel
theorem dX4_page_56 : decode cX4_page 56 = .ok (.getfield 123, 3) := by decide +kernel
theorem dX4_page_59 : decode cX4_page 59 = .ok (.getfield 157, 3) := by decide +kernel
theorem dX4_page_62 : decode cX4_page 62 = .ok (.iload_n 1, 1) := by decide +kernel
theorem dX4_page_63 : decode cX4_page 63 = .ok (.invokestatic 76, 3) := by decide +kernel
theorem dX4_page_66 : decode cX4_page 66 = .ok (.ireturn, 1) := by decide +kernel
theorem dX4_page_67 : decode cX4_page 67 = .ok (.aload_n 0, 1) := by decide +kernel
theorem dX4_page_68 : decode cX4_page 68 = .ok (.getfield 30, 3) := by decide +kernel
theorem dX4_page_71 : decode cX4_page 71 = .ok (.getfield 123, 3) := by decide +kernel
theorem dX4_page_74 : decode cX4_page 74 = .ok (.iload_n 1, 1) := by decide +kernel
theorem dX4_page_75 : decode cX4_page 75 = .ok (.invokevirtual 160, 3) := by decide +kernel
theorem dX4_page_78 : decode cX4_page 78 = .ok (.ireturn, 1) := by decide +kernel
theorem dX4_page_79 : decode cX4_page 79 = .ok (.aload_n 0, 1) := by decide +kernel
theorem dX4_page_80 : decode cX4_page 80 = .ok (.getfield 30, 3) := by decide +kernel
theorem dX4_page_83 : decode cX4_page 83 = .ok (.getfield 123, 3) := by decide +kernel
theorem dX4_page_86 : decode cX4_page 86 = .ok (.iload_n 1, 1) := by decide +kernel
theorem dX4_page_87 : decode cX4_page 87 = .ok (.iconst 1, 1) := by decide +kernel
theorem dX4_page_88 : decode cX4_page 88 = .ok (.invokevirtual 163, 3) := by decide +kernel
theorem dX4_page_91 : decode cX4_page 91 = .ok (.ireturn, 1) := by decide +kernel
theorem dX4_page_92 : decode cX4_page 92 = .ok (.aload_n 0, 1) := by decide +kernel
theorem dX4_page_93 : decode cX4_page 93 = .ok (.getfield 30, 3) := by decide +kernel
theorem dX4_page_96 : decode cX4_page 96 = .ok (.getfield 123, 3) := by decide +kernel
theorem dX4_page_99 : decode cX4_page 99 = .ok (.iload_n 1, 1) := by decide +kernel
theorem dX4_page_100 : decode cX4_page 100 = .ok (.iconst 2, 1) := by decide +kernel
theorem dX4_page_101 : decode cX4_page 101 = .ok (.invokevirtual 163, 3) := by decide +kernel
theorem dX4_page_104 : decode cX4_page 104 = .ok (.ireturn, 1) := by decide +kernel
theorem dX4_page_105 : decode cX4_page 105 = .ok (.aload_n 0, 1) := by decide +kernel
theorem dX4_page_106 : decode cX4_page 106 = .ok (.getfield 30, 3) := by decide +kernel
theorem dX4_page_109 : decode cX4_page 109 = .ok (.getfield 123, 3) := by decide +kernel
theorem dX4_page_112 : decode cX4_page 112 = .ok (.iload_n 1, 1) := by decide +kernel
theorem dX4_page_113 : decode cX4_page 113 = .ok (.iconst 3, 1) := by decide +kernel
theorem dX4_page_114 : decode cX4_page 114 = .ok (.invokevirtual 163, 3) := by decide +kernel
theorem dX4_page_117 : decode cX4_page 117 = .ok (.ireturn, 1) := by decide +kernel
theorem dX4_page_118 : decode cX4_page 118 = .ok (.aload_n 0, 1) := by decide +kernel
theorem dX4_page_119 : decode cX4_page 119 = .ok (.getfield 30, 3) := by decide +kernel
theorem dX4_page_122 : decode cX4_page 122 = .ok (.getfield 123, 3) := by decide +kernel
theorem dX4_page_125 : decode cX4_page 125 = .ok (.iload_n 1, 1) := by decide +kernel
theorem dX4_page_126 : decode cX4_page 126 = .ok (.iconst 0, 1) := by decide +kernel
theorem dX4_page_127 : decode cX4_page 127 = .ok (.invokevirtual 163, 3) := by decide +kernel
theorem dX4_page_130 : decode cX4_page 130 = .ok (.ireturn, 1) := by decide +kernel
theorem dX4_page_131 : decode cX4_page 131 = .ok (.bipush (-2), 2) := by decide +kernel
theorem dX4_page_133 : decode cX4_page 133 = .ok (.ireturn, 1) := by decide +kernel
theorem dX4_slot_0 : decode cX4_slot 0 = .ok (.iload_n 1, 1) := by decide +kernel
theorem dX4_slot_1 : decode cX4_slot 1 = .ok (.ifCond .lt 28, 3) := by decide +kernel
theorem dX4_slot_4 : decode cX4_slot 4 = .ok (.iload_n 1, 1) := by decide +kernel
theorem dX4_slot_5 : decode cX4_slot 5 = .ok (.bipush 10, 2) := by decide +kernel
theorem dX4_slot_7 : decode cX4_slot 7 = .ok (.if_icmp .ge 22, 3) := by decide +kernel
theorem dX4_slot_10 : decode cX4_slot 10 = .ok (.iload_n 2, 1) := by decide +kernel
theorem dX4_slot_11 : decode cX4_slot 11 = .ok (.ifCond .lt 18, 3) := by decide +kernel
theorem dX4_slot_14 : decode cX4_slot 14 = .ok (.iload_n 2, 1) := by decide +kernel
theorem dX4_slot_15 : decode cX4_slot 15 = .ok (.aload_n 0, 1) := by decide +kernel
theorem dX4_slot_16 : decode cX4_slot 16 = .ok (.getfield 30, 3) := by decide +kernel
theorem dX4_slot_19 : decode cX4_slot 19 = .ok (.getfield 123, 3) := by decide +kernel
theorem dX4_slot_22 : decode cX4_slot 22 = .ok (.iload_n 1, 1) := by decide +kernel
theorem dX4_slot_23 : decode cX4_slot 23 = .ok (.invokevirtual 160, 3) := by decide +kernel
theorem dX4_slot_26 : decode cX4_slot 26 = .ok (.if_icmp .lt 5, 3) := by decide +kernel
theorem dX4_slot_29 : decode cX4_slot 29 = .ok (.iconst (-1), 1) := by decide +kernel
theorem dX4_slot_30 : decode cX4_slot 30 = .ok (.ireturn, 1) := by decide +kernel
theorem dX4_slot_31 : decode cX4_slot 31 = .ok (.iload_n 1, 1) := by decide +kernel
theorem dX4_slot_32 : decode cX4_slot 32 = .ok (.bipush 40, 2) := by decide +kernel
theorem dX4_slot_34 : decode cX4_slot 34 = .ok (.imul, 1) := by decide +kernel
theorem dX4_slot_35 : decode cX4_slot 35 = .ok (.iload_n 2, 1) := by decide +kernel
theorem dX4_slot_36 : decode cX4_slot 36 = .ok (.iadd, 1) := by decide +kernel
theorem dX4_slot_37 : decode cX4_slot 37 = .ok (.istore 4, 2) := by decide +kernel
theorem dX4_slot_39 : decode cX4_slot 39 = .ok (.iload_n 3, 1) := by decide +kernel
theorem dX4_slot_40 : decode cX4_slot 40 = .ok (.tableswitch 99 0 2 #[28, 44, 83], 28) := by decide +kernel
theorem dX4_slot_68 : decode cX4_slot 68 = .ok (.aload_n 0, 1) := by decide +kernel
theorem dX4_slot_69 : decode cX4_slot 69 = .ok (.getfield 30, 3) := by decide +kernel
theorem dX4_slot_72 : decode cX4_slot 72 = .ok (.getfield 123, 3) := by decide +kernel
theorem dX4_slot_75 : decode cX4_slot 75 = .ok (.getfield 167, 3) := by decide +kernel
theorem dX4_slot_78 : decode cX4_slot 78 = .ok (.iload 4, 2) := by decide +kernel
theorem dX4_slot_80 : decode cX4_slot 80 = .ok (.invokestatic 76, 3) := by decide +kernel
theorem dX4_slot_83 : decode cX4_slot 83 = .ok (.ireturn, 1) := by decide +kernel
theorem dX4_slot_84 : decode cX4_slot 84 = .ok (.aload_n 0, 1) := by decide +kernel
theorem dX4_slot_85 : decode cX4_slot 85 = .ok (.getfield 30, 3) := by decide +kernel
theorem dX4_slot_88 : decode cX4_slot 88 = .ok (.getfield 123, 3) := by decide +kernel
theorem dX4_slot_91 : decode cX4_slot 91 = .ok (.getfield 167, 3) := by decide +kernel
theorem dX4_slot_94 : decode cX4_slot 94 = .ok (.iload 4, 2) := by decide +kernel
theorem dX4_slot_96 : decode cX4_slot 96 = .ok (.invokestatic 76, 3) := by decide +kernel
theorem dX4_slot_99 : decode cX4_slot 99 = .ok (.ifCond .ne 8, 3) := by decide +kernel
theorem dX4_slot_102 : decode cX4_slot 102 = .ok (.bipush (-6), 2) := by decide +kernel
theorem dX4_slot_104 : decode cX4_slot 104 = .ok (.goto 18, 3) := by decide +kernel
theorem dX4_slot_107 : decode cX4_slot 107 = .ok (.aload_n 0, 1) := by decide +kernel
theorem dX4_slot_108 : decode cX4_slot 108 = .ok (.getfield 30, 3) := by decide +kernel
theorem dX4_slot_111 : decode cX4_slot 111 = .ok (.getfield 123, 3) := by decide +kernel
theorem dX4_slot_114 : decode cX4_slot 114 = .ok (.getfield 170, 3) := by decide +kernel
theorem dX4_slot_117 : decode cX4_slot 117 = .ok (.iload 4, 2) := by decide +kernel
theorem dX4_slot_119 : decode cX4_slot 119 = .ok (.invokestatic 76, 3) := by decide +kernel
theorem dX4_slot_122 : decode cX4_slot 122 = .ok (.ireturn, 1) := by decide +kernel
theorem dX4_slot_123 : decode cX4_slot 123 = .ok (.aload_n 0, 1) := by decide +kernel
theorem dX4_slot_124 : decode cX4_slot 124 = .ok (.getfield 30, 3) := by decide +kernel
theorem dX4_slot_127 : decode cX4_slot 127 = .ok (.getfield 123, 3) := by decide +kernel
theorem dX4_slot_130 : decode cX4_slot 130 = .ok (.getfield 145, 3) := by decide +kernel
theorem dX4_slot_133 : decode cX4_slot 133 = .ok (.iload 4, 2) := by decide +kernel
theorem dX4_slot_135 : decode cX4_slot 135 = .ok (.invokestatic 76, 3) := by decide +kernel
theorem dX4_slot_138 : decode cX4_slot 138 = .ok (.ireturn, 1) := by decide +kernel
theorem dX4_slot_139 : decode cX4_slot 139 = .ok (.bipush (-2), 2) := by decide +kernel
theorem dX4_slot_141 : decode cX4_slot 141 = .ok (.ireturn, 1) := by decide +kernel
theorem dX4_count_0 : decode cX4_count 0 = .ok (.iload_n 1, 1) := by decide +kernel
theorem dX4_count_1 : decode cX4_count 1 = .ok (.tableswitch 188 0 11 #[63, 71, 82, 94, 106, 117, 125, 133, 156, 164, 172, 180], 63) := by decide +kernel
theorem dX4_count_64 : decode cX4_count 64 = .ok (.aload_n 0, 1) := by decide +kernel
theorem dX4_count_65 : decode cX4_count 65 = .ok (.getfield 30, 3) := by decide +kernel
theorem dX4_count_68 : decode cX4_count 68 = .ok (.getfield 173, 3) := by decide +kernel
theorem dX4_count_71 : decode cX4_count 71 = .ok (.ireturn, 1) := by decide +kernel
theorem dX4_count_72 : decode cX4_count 72 = .ok (.aload_n 0, 1) := by decide +kernel
theorem dX4_count_73 : decode cX4_count 73 = .ok (.getfield 30, 3) := by decide +kernel
theorem dX4_count_76 : decode cX4_count 76 = .ok (.getfield 123, 3) := by decide +kernel
theorem dX4_count_79 : decode cX4_count 79 = .ok (.invokevirtual 127, 3) := by decide +kernel
theorem dX4_count_82 : decode cX4_count 82 = .ok (.ireturn, 1) := by decide +kernel
theorem dX4_count_83 : decode cX4_count 83 = .ok (.aload_n 0, 1) := by decide +kernel
theorem dX4_count_84 : decode cX4_count 84 = .ok (.getfield 30, 3) := by decide +kernel
theorem dX4_count_87 : decode cX4_count 87 = .ok (.getfield 123, 3) := by decide +kernel
theorem dX4_count_90 : decode cX4_count 90 = .ok (.iconst 3, 1) := by decide +kernel
theorem dX4_count_91 : decode cX4_count 91 = .ok (.invokevirtual 174, 3) := by decide +kernel
theorem dX4_count_94 : decode cX4_count 94 = .ok (.ireturn, 1) := by decide +kernel
theorem dX4_count_95 : decode cX4_count 95 = .ok (.aload_n 0, 1) := by decide +kernel
theorem dX4_count_96 : decode cX4_count 96 = .ok (.getfield 30, 3) := by decide +kernel
theorem dX4_count_99 : decode cX4_count 99 = .ok (.getfield 123, 3) := by decide +kernel
theorem dX4_count_102 : decode cX4_count 102 = .ok (.iconst 2, 1) := by decide +kernel
theorem dX4_count_103 : decode cX4_count 103 = .ok (.invokevirtual 174, 3) := by decide +kernel
theorem dX4_count_106 : decode cX4_count 106 = .ok (.ireturn, 1) := by decide +kernel
theorem dX4_count_107 : decode cX4_count 107 = .ok (.aload_n 0, 1) := by decide +kernel
theorem dX4_count_108 : decode cX4_count 108 = .ok (.getfield 30, 3) := by decide +kernel
theorem dX4_count_111 : decode cX4_count 111 = .ok (.getfield 123, 3) := by decide +kernel
theorem dX4_count_114 : decode cX4_count 114 = .ok (.invokevirtual 177, 3) := by decide +kernel
theorem dX4_count_117 : decode cX4_count 117 = .ok (.ireturn, 1) := by decide +kernel
theorem dX4_count_118 : decode cX4_count 118 = .ok (.aload_n 0, 1) := by decide +kernel
theorem dX4_count_119 : decode cX4_count 119 = .ok (.getfield 30, 3) := by decide +kernel
theorem dX4_count_122 : decode cX4_count 122 = .ok (.invokevirtual 180, 3) := by decide +kernel
theorem dX4_count_125 : decode cX4_count 125 = .ok (.ireturn, 1) := by decide +kernel
theorem dX4_count_126 : decode cX4_count 126 = .ok (.aload_n 0, 1) := by decide +kernel
theorem dX4_count_127 : decode cX4_count 127 = .ok (.getfield 30, 3) := by decide +kernel
theorem dX4_count_130 : decode cX4_count 130 = .ok (.invokevirtual 183, 3) := by decide +kernel
theorem dX4_count_133 : decode cX4_count 133 = .ok (.ireturn, 1) := by decide +kernel
theorem dX4_count_134 : decode cX4_count 134 = .ok (.aload_n 0, 1) := by decide +kernel
theorem dX4_count_135 : decode cX4_count 135 = .ok (.getfield 30, 3) := by decide +kernel
theorem dX4_count_138 : decode cX4_count 138 = .ok (.getfield 173, 3) := by decide +kernel
theorem dX4_count_141 : decode cX4_count 141 = .ok (.ifCond .ne 8, 3) := by decide +kernel
theorem dX4_count_144 : decode cX4_count 144 = .ok (.bipush (-6), 2) := by decide +kernel
theorem dX4_count_146 : decode cX4_count 146 = .ok (.goto 10, 3) := by decide +kernel
theorem dX4_count_149 : decode cX4_count 149 = .ok (.aload_n 0, 1) := by decide +kernel
theorem dX4_count_150 : decode cX4_count 150 = .ok (.getfield 30, 3) := by decide +kernel
theorem dX4_count_153 : decode cX4_count 153 = .ok (.invokevirtual 186, 3) := by decide +kernel
theorem dX4_count_156 : decode cX4_count 156 = .ok (.ireturn, 1) := by decide +kernel
theorem dX4_count_157 : decode cX4_count 157 = .ok (.aload_n 0, 1) := by decide +kernel
theorem dX4_count_158 : decode cX4_count 158 = .ok (.getfield 30, 3) := by decide +kernel
theorem dX4_count_161 : decode cX4_count 161 = .ok (.getfield 48, 3) := by decide +kernel
theorem dX4_count_164 : decode cX4_count 164 = .ok (.ireturn, 1) := by decide +kernel
theorem dX4_count_165 : decode cX4_count 165 = .ok (.aload_n 0, 1) := by decide +kernel
theorem dX4_count_166 : decode cX4_count 166 = .ok (.getfield 30, 3) := by decide +kernel
theorem dX4_count_169 : decode cX4_count 169 = .ok (.getfield 52, 3) := by decide +kernel
theorem dX4_count_172 : decode cX4_count 172 = .ok (.ireturn, 1) := by decide +kernel
theorem dX4_count_173 : decode cX4_count 173 = .ok (.aload_n 0, 1) := by decide +kernel
theorem dX4_count_174 : decode cX4_count 174 = .ok (.getfield 12, 3) := by decide +kernel
theorem dX4_count_177 : decode cX4_count 177 = .ok (.getfield 66, 3) := by decide +kernel
theorem dX4_count_180 : decode cX4_count 180 = .ok (.ireturn, 1) := by decide +kernel
theorem dX4_count_181 : decode cX4_count 181 = .ok (.aload_n 0, 1) := by decide +kernel
theorem dX4_count_182 : decode cX4_count 182 = .ok (.getfield 19, 3) := by decide +kernel
theorem dX4_count_185 : decode cX4_count 185 = .ok (.getfield 189, 3) := by decide +kernel
theorem dX4_count_188 : decode cX4_count 188 = .ok (.ireturn, 1) := by decide +kernel
theorem dX4_count_189 : decode cX4_count 189 = .ok (.bipush (-2), 2) := by decide +kernel
theorem dX4_count_191 : decode cX4_count 191 = .ok (.ireturn, 1) := by decide +kernel
theorem dX4_key_0 : decode cX4_key 0 = .ok (.iconst 0, 1) := by decide +kernel
theorem dX4_key_1 : decode cX4_key 1 = .ok (.istore_n 2, 1) := by decide +kernel
theorem dX4_key_2 : decode cX4_key 2 = .ok (.iconst 0, 1) := by decide +kernel
theorem dX4_key_3 : decode cX4_key 3 = .ok (.istore_n 3, 1) := by decide +kernel
theorem dX4_key_4 : decode cX4_key 4 = .ok (.iload_n 3, 1) := by decide +kernel
theorem dX4_key_5 : decode cX4_key 5 = .ok (.bipush 100, 2) := by decide +kernel
theorem dX4_key_7 : decode cX4_key 7 = .ok (.if_icmp .ge 30, 3) := by decide +kernel
theorem dX4_key_10 : decode cX4_key 10 = .ok (.aload_n 0, 1) := by decide +kernel
theorem dX4_key_11 : decode cX4_key 11 = .ok (.getfield 30, 3) := by decide +kernel
theorem dX4_key_14 : decode cX4_key 14 = .ok (.iload_n 3, 1) := by decide +kernel
theorem dX4_key_15 : decode cX4_key 15 = .ok (.invokevirtual 108, 3) := by decide +kernel
theorem dX4_key_18 : decode cX4_key 18 = .ok (.ifnull 13, 3) := by decide +kernel
theorem dX4_key_21 : decode cX4_key 21 = .ok (.iload_n 2, 1) := by decide +kernel
theorem dX4_key_22 : decode cX4_key 22 = .ok (.iload_n 1, 1) := by decide +kernel
theorem dX4_key_23 : decode cX4_key 23 = .ok (.if_icmp .ne 5, 3) := by decide +kernel
theorem dX4_key_26 : decode cX4_key 26 = .ok (.iload_n 3, 1) := by decide +kernel
theorem dX4_key_27 : decode cX4_key 27 = .ok (.ireturn, 1) := by decide +kernel
theorem dX4_key_28 : decode cX4_key 28 = .ok (.iinc 2 1, 3) := by decide +kernel
theorem dX4_key_31 : decode cX4_key 31 = .ok (.iinc 3 1, 3) := by decide +kernel
theorem dX4_key_34 : decode cX4_key 34 = .ok (.goto (-30), 3) := by decide +kernel
theorem dX4_key_37 : decode cX4_key 37 = .ok (.iconst (-1), 1) := by decide +kernel
theorem dX4_key_38 : decode cX4_key 38 = .ok (.ireturn, 1) := by decide +kernel
theorem dX4_ifPacked_0 : decode cX4_ifPacked 0 = .ok (.iload_n 1, 1) := by decide +kernel
theorem dX4_ifPacked_1 : decode cX4_ifPacked 1 = .ok (.ifCond .lt 18, 3) := by decide +kernel
theorem dX4_ifPacked_4 : decode cX4_ifPacked 4 = .ok (.iload_n 1, 1) := by decide +kernel
theorem dX4_ifPacked_5 : decode cX4_ifPacked 5 = .ok (.bipush 16, 2) := by decide +kernel
theorem dX4_ifPacked_7 : decode cX4_ifPacked 7 = .ok (.if_icmp .gt 12, 3) := by decide +kernel
theorem dX4_ifPacked_10 : decode cX4_ifPacked 10 = .ok (.iload_n 2, 1) := by decide +kernel
theorem dX4_ifPacked_11 : decode cX4_ifPacked 11 = .ok (.ifCond .lt 8, 3) := by decide +kernel
theorem dX4_ifPacked_14 : decode cX4_ifPacked 14 = .ok (.iload_n 2, 1) := by decide +kernel
theorem dX4_ifPacked_15 : decode cX4_ifPacked 15 = .ok (.iconst 2, 1) := by decide +kernel
theorem dX4_ifPacked_16 : decode cX4_ifPacked 16 = .ok (.if_icmp .le 6, 3) := by decide +kernel
theorem dX4_ifPacked_19 : decode cX4_ifPacked 19 = .ok (.bipush (-2), 2) := by decide +kernel
theorem dX4_ifPacked_21 : decode cX4_ifPacked 21 = .ok (.ireturn, 1) := by decide +kernel
theorem dX4_ifPacked_22 : decode cX4_ifPacked 22 = .ok (.aload_n 0, 1) := by decide +kernel
theorem dX4_ifPacked_23 : decode cX4_ifPacked 23 = .ok (.iload_n 1, 1) := by decide +kernel
theorem dX4_ifPacked_24 : decode cX4_ifPacked 24 = .ok (.invokevirtual 120, 3) := by decide +kernel
theorem dX4_ifPacked_27 : decode cX4_ifPacked 27 = .ok (.ifCond .ne 6, 3) := by decide +kernel
theorem dX4_ifPacked_30 : decode cX4_ifPacked 30 = .ok (.bipush (-5), 2) := by decide +kernel
theorem dX4_ifPacked_32 : decode cX4_ifPacked 32 = .ok (.ireturn, 1) := by decide +kernel
theorem dX4_ifPacked_33 : decode cX4_ifPacked 33 = .ok (.iload_n 2, 1) := by decide +kernel
theorem dX4_ifPacked_34 : decode cX4_ifPacked 34 = .ok (.ifCond .ne 11, 3) := by decide +kernel
theorem dX4_ifPacked_37 : decode cX4_ifPacked 37 = .ok (.aload_n 0, 1) := by decide +kernel
theorem dX4_ifPacked_38 : decode cX4_ifPacked 38 = .ok (.getfield 34, 3) := by decide +kernel
theorem dX4_ifPacked_41 : decode cX4_ifPacked 41 = .ok (.invokevirtual 180, 3) := by decide +kernel
theorem dX4_ifPacked_44 : decode cX4_ifPacked 44 = .ok (.ireturn, 1) := by decide +kernel
theorem dX4_ifPacked_45 : decode cX4_ifPacked 45 = .ok (.iload_n 2, 1) := by decide +kernel
theorem dX4_ifPacked_46 : decode cX4_ifPacked 46 = .ok (.iconst 1, 1) := by decide +kernel
theorem dX4_ifPacked_47 : decode cX4_ifPacked 47 = .ok (.if_icmp .ne 16, 3) := by decide +kernel
theorem dX4_ifPacked_50 : decode cX4_ifPacked 50 = .ok (.aload_n 0, 1) := by decide +kernel
theorem dX4_ifPacked_51 : decode cX4_ifPacked 51 = .ok (.getfield 34, 3) := by decide +kernel
theorem dX4_ifPacked_54 : decode cX4_ifPacked 54 = .ok (.getfield 123, 3) := by decide +kernel
theorem dX4_ifPacked_57 : decode cX4_ifPacked 57 = .ok (.invokevirtual 127, 3) := by decide +kernel
theorem dX4_ifPacked_60 : decode cX4_ifPacked 60 = .ok (.goto 14, 3) := by decide +kernel
theorem dX4_ifPacked_63 : decode cX4_ifPacked 63 = .ok (.aload_n 0, 1) := by decide +kernel
theorem dX4_ifPacked_64 : decode cX4_ifPacked 64 = .ok (.getfield 34, 3) := by decide +kernel
theorem dX4_ifPacked_67 : decode cX4_ifPacked 67 = .ok (.getfield 123, 3) := by decide +kernel
theorem dX4_ifPacked_70 : decode cX4_ifPacked 70 = .ok (.iconst 2, 1) := by decide +kernel
theorem dX4_ifPacked_71 : decode cX4_ifPacked 71 = .ok (.invokevirtual 174, 3) := by decide +kernel
theorem dX4_ifPacked_74 : decode cX4_ifPacked 74 = .ok (.ireturn, 1) := by decide +kernel
theorem dX4_bestHead_0 : decode cX4_bestHead 0 = .ok (.aload_n 0, 1) := by decide +kernel
theorem dX4_bestHead_1 : decode cX4_bestHead 1 = .ok (.getfield 30, 3) := by decide +kernel
theorem dX4_bestHead_4 : decode cX4_bestHead 4 = .ok (.getfield 173, 3) := by decide +kernel
theorem dX4_bestHead_7 : decode cX4_bestHead 7 = .ok (.ifCond .ne 6, 3) := by decide +kernel
theorem dX4_bestHead_10 : decode cX4_bestHead 10 = .ok (.bipush (-6), 2) := by decide +kernel
theorem dX4_bestHead_12 : decode cX4_bestHead 12 = .ok (.ireturn, 1) := by decide +kernel
theorem dX4_bestHead_13 : decode cX4_bestHead 13 = .ok (.bipush (-6), 2) := by decide +kernel
theorem dX4_bestHead_15 : decode cX4_bestHead 15 = .ok (.istore_n 1, 1) := by decide +kernel
theorem dX4_bestHead_16 : decode cX4_bestHead 16 = .ok (.iconst 0, 1) := by decide +kernel
theorem dX4_bestHead_17 : decode cX4_bestHead 17 = .ok (.istore_n 2, 1) := by decide +kernel
theorem dX4_bestHead_18 : decode cX4_bestHead 18 = .ok (.iconst 0, 1) := by decide +kernel
theorem dX4_bestHead_19 : decode cX4_bestHead 19 = .ok (.istore_n 3, 1) := by decide +kernel
theorem dX4_bestHead_20 : decode cX4_bestHead 20 = .ok (.iload_n 3, 1) := by decide +kernel
theorem dX4_bestHead_21 : decode cX4_bestHead 21 = .ok (.bipush 16, 2) := by decide +kernel
theorem dX4_bestHead_23 : decode cX4_bestHead 23 = .ok (.if_icmp .gt 43, 3) := by decide +kernel
theorem dX4_bestHead_26 : decode cX4_bestHead 26 = .ok (.aload_n 0, 1) := by decide +kernel
theorem dX4_bestHead_27 : decode cX4_bestHead 27 = .ok (.iload_n 3, 1) := by decide +kernel
theorem dX4_bestHead_28 : decode cX4_bestHead 28 = .ok (.invokevirtual 120, 3) := by decide +kernel
theorem dX4_bestHead_31 : decode cX4_bestHead 31 = .ok (.ifCond .eq 29, 3) := by decide +kernel
theorem dX4_bestHead_34 : decode cX4_bestHead 34 = .ok (.aload_n 0, 1) := by decide +kernel
theorem dX4_bestHead_35 : decode cX4_bestHead 35 = .ok (.getfield 34, 3) := by decide +kernel
theorem dX4_bestHead_38 : decode cX4_bestHead 38 = .ok (.invokevirtual 180, 3) := by decide +kernel
theorem dX4_bestHead_41 : decode cX4_bestHead 41 = .ok (.istore 4, 2) := by decide +kernel
theorem dX4_bestHead_43 : decode cX4_bestHead 43 = .ok (.iload_n 1, 1) := by decide +kernel
theorem dX4_bestHead_44 : decode cX4_bestHead 44 = .ok (.bipush (-6), 2) := by decide +kernel
theorem dX4_bestHead_46 : decode cX4_bestHead 46 = .ok (.if_icmp .eq 9, 3) := by decide +kernel
theorem dX4_bestHead_49 : decode cX4_bestHead 49 = .ok (.iload 4, 2) := by decide +kernel
theorem dX4_bestHead_51 : decode cX4_bestHead 51 = .ok (.iload_n 2, 1) := by decide +kernel
theorem dX4_bestHead_52 : decode cX4_bestHead 52 = .ok (.if_icmp .ge 8, 3) := by decide +kernel
theorem dX4_bestHead_55 : decode cX4_bestHead 55 = .ok (.iload_n 3, 1) := by decide +kernel
theorem dX4_bestHead_56 : decode cX4_bestHead 56 = .ok (.istore_n 1, 1) := by decide +kernel
theorem dX4_bestHead_57 : decode cX4_bestHead 57 = .ok (.iload 4, 2) := by decide +kernel
theorem dX4_bestHead_59 : decode cX4_bestHead 59 = .ok (.istore_n 2, 1) := by decide +kernel
theorem dX4_bestHead_60 : decode cX4_bestHead 60 = .ok (.iinc 3 2, 3) := by decide +kernel
theorem dX4_bestHead_63 : decode cX4_bestHead 63 = .ok (.goto (-43), 3) := by decide +kernel
theorem dX4_bestHead_66 : decode cX4_bestHead 66 = .ok (.iload_n 1, 1) := by decide +kernel
theorem dX4_bestHead_67 : decode cX4_bestHead 67 = .ok (.ireturn, 1) := by decide +kernel
theorem dX4_most_0 : decode cX4_most 0 = .ok (.iload_n 1, 1) := by decide +kernel
theorem dX4_most_1 : decode cX4_most 1 = .ok (.ifCond .lt 9, 3) := by decide +kernel
theorem dX4_most_4 : decode cX4_most 4 = .ok (.iload_n 1, 1) := by decide +kernel
theorem dX4_most_5 : decode cX4_most 5 = .ok (.bipush 100, 2) := by decide +kernel
theorem dX4_most_7 : decode cX4_most 7 = .ok (.if_icmp .lt 6, 3) := by decide +kernel
theorem dX4_most_10 : decode cX4_most 10 = .ok (.bipush (-2), 2) := by decide +kernel
theorem dX4_most_12 : decode cX4_most 12 = .ok (.ireturn, 1) := by decide +kernel
theorem dX4_most_13 : decode cX4_most 13 = .ok (.bipush 40, 2) := by decide +kernel
theorem dX4_most_15 : decode cX4_most 15 = .ok (.istore_n 2, 1) := by decide +kernel
theorem dX4_most_16 : decode cX4_most 16 = .ok (.iload_n 2, 1) := by decide +kernel
theorem dX4_most_17 : decode cX4_most 17 = .ok (.ifCond .lt 34, 3) := by decide +kernel
theorem dX4_most_20 : decode cX4_most 20 = .ok (.aload_n 0, 1) := by decide +kernel
theorem dX4_most_21 : decode cX4_most 21 = .ok (.getfield 34, 3) := by decide +kernel
theorem dX4_most_24 : decode cX4_most 24 = .ok (.aload_n 0, 1) := by decide +kernel
theorem dX4_most_25 : decode cX4_most 25 = .ok (.getfield 30, 3) := by decide +kernel
theorem dX4_most_28 : decode cX4_most 28 = .ok (.invokevirtual 69, 3) := by decide +kernel
theorem dX4_most_31 : decode cX4_most 31 = .ok (.aload_n 0, 1) := by decide +kernel
theorem dX4_most_32 : decode cX4_most 32 = .ok (.getfield 34, 3) := by decide +kernel
theorem dX4_most_35 : decode cX4_most 35 = .ok (.iload_n 1, 1) := by decide +kernel
theorem dX4_most_36 : decode cX4_most 36 = .ok (.iload_n 2, 1) := by decide +kernel
theorem dX4_most_37 : decode cX4_most 37 = .ok (.invokevirtual 83, 3) := by decide +kernel
theorem dX4_most_40 : decode cX4_most 40 = .ok (.ifnull 5, 3) := by decide +kernel
theorem dX4_most_43 : decode cX4_most 43 = .ok (.iload_n 2, 1) := by decide +kernel
theorem dX4_most_44 : decode cX4_most 44 = .ok (.ireturn, 1) := by decide +kernel
theorem dX4_most_45 : decode cX4_most 45 = .ok (.iinc 2 (-1), 3) := by decide +kernel
theorem dX4_most_48 : decode cX4_most 48 = .ok (.goto (-32), 3) := by decide +kernel
theorem dX4_most_51 : decode cX4_most 51 = .ok (.bipush (-6), 2) := by decide +kernel
theorem dX4_most_53 : decode cX4_most 53 = .ok (.ireturn, 1) := by decide +kernel
theorem dX4_put_0 : decode cX4_put 0 = .ok (.lload_n 1, 1) := by decide +kernel
theorem dX4_put_1 : decode cX4_put 1 = .ok (.invokestatic 192, 3) := by decide +kernel
theorem dX4_put_4 : decode cX4_put 4 = .ok (.istore_n 3, 1) := by decide +kernel
theorem dX4_put_5 : decode cX4_put 5 = .ok (.iload_n 3, 1) := by decide +kernel
theorem dX4_put_6 : decode cX4_put 6 = .ok (.ifCond .ne 6, 3) := by decide +kernel
theorem dX4_put_9 : decode cX4_put 9 = .ok (.bipush (-2), 2) := by decide +kernel
theorem dX4_put_11 : decode cX4_put 11 = .ok (.ireturn, 1) := by decide +kernel
theorem dX4_put_12 : decode cX4_put 12 = .ok (.aload_n 0, 1) := by decide +kernel
theorem dX4_put_13 : decode cX4_put 13 = .ok (.getfield 12, 3) := by decide +kernel
theorem dX4_put_16 : decode cX4_put 16 = .ok (.getfield 66, 3) := by decide +kernel
theorem dX4_put_19 : decode cX4_put 19 = .ok (.iload_n 3, 1) := by decide +kernel
theorem dX4_put_20 : decode cX4_put 20 = .ok (.iadd, 1) := by decide +kernel
theorem dX4_put_21 : decode cX4_put 21 = .ok (.bipush 80, 2) := by decide +kernel
theorem dX4_put_23 : decode cX4_put 23 = .ok (.if_icmp .le 6, 3) := by decide +kernel
theorem dX4_put_26 : decode cX4_put 26 = .ok (.bipush (-4), 2) := by decide +kernel
theorem dX4_put_28 : decode cX4_put 28 = .ok (.ireturn, 1) := by decide +kernel
theorem dX4_put_29 : decode cX4_put 29 = .ok (.iload_n 3, 1) := by decide +kernel
theorem dX4_put_30 : decode cX4_put 30 = .ok (.iconst 1, 1) := by decide +kernel
theorem dX4_put_31 : decode cX4_put 31 = .ok (.isub, 1) := by decide +kernel
theorem dX4_put_32 : decode cX4_put 32 = .ok (.istore 4, 2) := by decide +kernel
theorem dX4_put_34 : decode cX4_put 34 = .ok (.iload 4, 2) := by decide +kernel
theorem dX4_put_36 : decode cX4_put 36 = .ok (.ifCond .lt 45, 3) := by decide +kernel
theorem dX4_put_39 : decode cX4_put 39 = .ok (.aload_n 0, 1) := by decide +kernel
theorem dX4_put_40 : decode cX4_put 40 = .ok (.getfield 12, 3) := by decide +kernel
theorem dX4_put_43 : decode cX4_put 43 = .ok (.getfield 98, 3) := by decide +kernel
theorem dX4_put_46 : decode cX4_put 46 = .ok (.aload_n 0, 1) := by decide +kernel
theorem dX4_put_47 : decode cX4_put 47 = .ok (.getfield 12, 3) := by decide +kernel
theorem dX4_put_50 : decode cX4_put 50 = .ok (.getfield 66, 3) := by decide +kernel
theorem dX4_put_53 : decode cX4_put 53 = .ok (.lload_n 1, 1) := by decide +kernel
theorem dX4_put_54 : decode cX4_put 54 = .ok (.iload 4, 2) := by decide +kernel
theorem dX4_put_56 : decode cX4_put 56 = .ok (.invokestatic 196, 3) := by decide +kernel
theorem dX4_put_59 : decode cX4_put 59 = .ok (.invokestatic 101, 3) := by decide +kernel
theorem dX4_put_62 : decode cX4_put 62 = .ok (.aload_n 0, 1) := by decide +kernel
theorem dX4_put_63 : decode cX4_put 63 = .ok (.getfield 12, 3) := by decide +kernel
theorem dX4_put_66 : decode cX4_put 66 = .ok (.dup, 1) := by decide +kernel
theorem dX4_put_67 : decode cX4_put 67 = .ok (.getfield 66, 3) := by decide +kernel
theorem dX4_put_70 : decode cX4_put 70 = .ok (.iconst 1, 1) := by decide +kernel
theorem dX4_put_71 : decode cX4_put 71 = .ok (.iadd, 1) := by decide +kernel
theorem dX4_put_72 : decode cX4_put 72 = .ok (.putfield 66, 3) := by decide +kernel
theorem dX4_put_75 : decode cX4_put 75 = .ok (.iinc 4 (-1), 3) := by decide +kernel
theorem dX4_put_78 : decode cX4_put 78 = .ok (.goto (-44), 3) := by decide +kernel
theorem dX4_put_81 : decode cX4_put 81 = .ok (.aload_n 0, 1) := by decide +kernel
theorem dX4_put_82 : decode cX4_put 82 = .ok (.getfield 12, 3) := by decide +kernel
theorem dX4_put_85 : decode cX4_put 85 = .ok (.getfield 66, 3) := by decide +kernel
theorem dX4_put_88 : decode cX4_put 88 = .ok (.ireturn, 1) := by decide +kernel
theorem dX4_signsIn_0 : decode cX4_signsIn 0 = .ok (.iconst 0, 1) := by decide +kernel
theorem dX4_signsIn_1 : decode cX4_signsIn 1 = .ok (.istore_n 2, 1) := by decide +kernel
theorem dX4_signsIn_2 : decode cX4_signsIn 2 = .ok (.iload_n 2, 1) := by decide +kernel
theorem dX4_signsIn_3 : decode cX4_signsIn 3 = .ok (.bipush 8, 2) := by decide +kernel
theorem dX4_signsIn_5 : decode cX4_signsIn 5 = .ok (.if_icmp .ge 37, 3) := by decide +kernel
theorem dX4_signsIn_8 : decode cX4_signsIn 8 = .ok (.lload_n 0, 1) := by decide +kernel
theorem dX4_signsIn_9 : decode cX4_signsIn 9 = .ok (.iload_n 2, 1) := by decide +kernel
theorem dX4_signsIn_10 : decode cX4_signsIn 10 = .ok (.invokestatic 196, 3) := by decide +kernel
theorem dX4_signsIn_13 : decode cX4_signsIn 13 = .ok (.ifCond .eq 29, 3) := by decide +kernel
theorem dX4_signsIn_16 : decode cX4_signsIn 16 = .ok (.lload_n 0, 1) := by decide +kernel
theorem dX4_signsIn_17 : decode cX4_signsIn 17 = .ok (.iload_n 2, 1) := by decide +kernel
theorem dX4_signsIn_18 : decode cX4_signsIn 18 = .ok (.invokestatic 196, 3) := by decide +kernel
theorem dX4_signsIn_21 : decode cX4_signsIn 21 = .ok (.istore_n 3, 1) := by decide +kernel
theorem dX4_signsIn_22 : decode cX4_signsIn 22 = .ok (.iload_n 3, 1) := by decide +kernel
theorem dX4_signsIn_23 : decode cX4_signsIn 23 = .ok (.bipush 33, 2) := by decide +kernel
theorem dX4_signsIn_25 : decode cX4_signsIn 25 = .ok (.if_icmp .lt 9, 3) := by decide +kernel
theorem dX4_signsIn_28 : decode cX4_signsIn 28 = .ok (.iload_n 3, 1) := by decide +kernel
theorem dX4_signsIn_29 : decode cX4_signsIn 29 = .ok (.bipush 126, 2) := by decide +kernel
theorem dX4_signsIn_31 : decode cX4_signsIn 31 = .ok (.if_icmp .le 5, 3) := by decide +kernel
theorem dX4_signsIn_34 : decode cX4_signsIn 34 = .ok (.iconst 0, 1) := by decide +kernel
theorem dX4_signsIn_35 : decode cX4_signsIn 35 = .ok (.ireturn, 1) := by decide +kernel
theorem dX4_signsIn_36 : decode cX4_signsIn 36 = .ok (.iinc 2 1, 3) := by decide +kernel
theorem dX4_signsIn_39 : decode cX4_signsIn 39 = .ok (.goto (-37), 3) := by decide +kernel
theorem dX4_signsIn_42 : decode cX4_signsIn 42 = .ok (.iload_n 2, 1) := by decide +kernel
theorem dX4_signsIn_43 : decode cX4_signsIn 43 = .ok (.bipush 8, 2) := by decide +kernel
theorem dX4_signsIn_45 : decode cX4_signsIn 45 = .ok (.if_icmp .ge 18, 3) := by decide +kernel
theorem dX4_signsIn_48 : decode cX4_signsIn 48 = .ok (.lload_n 0, 1) := by decide +kernel
theorem dX4_signsIn_49 : decode cX4_signsIn 49 = .ok (.bipush 8, 2) := by decide +kernel
theorem dX4_signsIn_51 : decode cX4_signsIn 51 = .ok (.iload_n 2, 1) := by decide +kernel
theorem dX4_signsIn_52 : decode cX4_signsIn 52 = .ok (.imul, 1) := by decide +kernel
theorem dX4_signsIn_53 : decode cX4_signsIn 53 = .ok (.lushr, 1) := by decide +kernel
theorem dX4_signsIn_54 : decode cX4_signsIn 54 = .ok (.lconst 0, 1) := by decide +kernel
theorem dX4_signsIn_55 : decode cX4_signsIn 55 = .ok (.lcmp, 1) := by decide +kernel
theorem dX4_signsIn_56 : decode cX4_signsIn 56 = .ok (.ifCond .eq 7, 3) := by decide +kernel
theorem dX4_signsIn_59 : decode cX4_signsIn 59 = .ok (.iconst 1, 1) := by decide +kernel
theorem dX4_signsIn_60 : decode cX4_signsIn 60 = .ok (.goto 4, 3) := by decide +kernel
theorem dX4_signsIn_63 : decode cX4_signsIn 63 = .ok (.iconst 0, 1) := by decide +kernel
theorem dX4_signsIn_64 : decode cX4_signsIn 64 = .ok (.istore_n 3, 1) := by decide +kernel
theorem dX4_signsIn_65 : decode cX4_signsIn 65 = .ok (.iload_n 3, 1) := by decide +kernel
theorem dX4_signsIn_66 : decode cX4_signsIn 66 = .ok (.ifCond .eq 7, 3) := by decide +kernel
theorem dX4_signsIn_69 : decode cX4_signsIn 69 = .ok (.iconst 0, 1) := by decide +kernel
theorem dX4_signsIn_70 : decode cX4_signsIn 70 = .ok (.goto 4, 3) := by decide +kernel
theorem dX4_signsIn_73 : decode cX4_signsIn 73 = .ok (.iload_n 2, 1) := by decide +kernel
theorem dX4_signsIn_74 : decode cX4_signsIn 74 = .ok (.ireturn, 1) := by decide +kernel
theorem dX4_signOf_0 : decode cX4_signOf 0 = .ok (.lload_n 0, 1) := by decide +kernel
theorem dX4_signOf_1 : decode cX4_signOf 1 = .ok (.bipush 8, 2) := by decide +kernel
theorem dX4_signOf_3 : decode cX4_signOf 3 = .ok (.iload_n 2, 1) := by decide +kernel
theorem dX4_signOf_4 : decode cX4_signOf 4 = .ok (.imul, 1) := by decide +kernel
theorem dX4_signOf_5 : decode cX4_signOf 5 = .ok (.lushr, 1) := by decide +kernel
theorem dX4_signOf_6 : decode cX4_signOf 6 = .ok (.l2i, 1) := by decide +kernel
theorem dX4_signOf_7 : decode cX4_signOf 7 = .ok (.sipush 255, 3) := by decide +kernel
theorem dX4_signOf_10 : decode cX4_signOf 10 = .ok (.iand, 1) := by decide +kernel
theorem dX4_signOf_11 : decode cX4_signOf 11 = .ok (.ireturn, 1) := by decide +kernel
theorem dX4_wipe_0 : decode cX4_wipe 0 = .ok (.aload_n 0, 1) := by decide +kernel
theorem dX4_wipe_1 : decode cX4_wipe 1 = .ok (.getfield 12, 3) := by decide +kernel
theorem dX4_wipe_4 : decode cX4_wipe 4 = .ok (.getfield 66, 3) := by decide +kernel
theorem dX4_wipe_7 : decode cX4_wipe 7 = .ok (.istore_n 1, 1) := by decide +kernel
theorem dX4_wipe_8 : decode cX4_wipe 8 = .ok (.aload_n 0, 1) := by decide +kernel
theorem dX4_wipe_9 : decode cX4_wipe 9 = .ok (.getfield 12, 3) := by decide +kernel
theorem dX4_wipe_12 : decode cX4_wipe 12 = .ok (.iconst 0, 1) := by decide +kernel
theorem dX4_wipe_13 : decode cX4_wipe 13 = .ok (.putfield 66, 3) := by decide +kernel
theorem dX4_wipe_16 : decode cX4_wipe 16 = .ok (.iload_n 1, 1) := by decide +kernel
theorem dX4_wipe_17 : decode cX4_wipe 17 = .ok (.ireturn, 1) := by decide +kernel
theorem dX4_fault_0 : decode cX4_fault 0 = .ok (.aload_n 0, 1) := by decide +kernel
theorem dX4_fault_1 : decode cX4_fault 1 = .ok (.getfield 12, 3) := by decide +kernel
theorem dX4_fault_4 : decode cX4_fault 4 = .ok (.invokevirtual 55, 3) := by decide +kernel
theorem dX4_fault_7 : decode cX4_fault 7 = .ok (.istore_n 1, 1) := by decide +kernel
theorem dX4_fault_8 : decode cX4_fault 8 = .ok (.iload_n 1, 1) := by decide +kernel
theorem dX4_fault_9 : decode cX4_fault 9 = .ok (.iconst (-1), 1) := by decide +kernel
theorem dX4_fault_10 : decode cX4_fault 10 = .ok (.if_icmp .ne 8, 3) := by decide +kernel
theorem dX4_fault_13 : decode cX4_fault 13 = .ok (.bipush (-6), 2) := by decide +kernel
theorem dX4_fault_15 : decode cX4_fault 15 = .ok (.goto 4, 3) := by decide +kernel
theorem dX4_fault_18 : decode cX4_fault 18 = .ok (.iload_n 1, 1) := by decide +kernel
theorem dX4_fault_19 : decode cX4_fault 19 = .ok (.ireturn, 1) := by decide +kernel
theorem dX4_undo_0 : decode cX4_undo 0 = .ok (.aload_n 0, 1) := by decide +kernel
theorem dX4_undo_1 : decode cX4_undo 1 = .ok (.getfield 19, 3) := by decide +kernel
theorem dX4_undo_4 : decode cX4_undo 4 = .ok (.getfield 189, 3) := by decide +kernel
theorem dX4_undo_7 : decode cX4_undo 7 = .ok (.ifCond .ne 6, 3) := by decide +kernel
theorem dX4_undo_10 : decode cX4_undo 10 = .ok (.bipush (-5), 2) := by decide +kernel
theorem dX4_undo_12 : decode cX4_undo 12 = .ok (.ireturn, 1) := by decide +kernel
theorem dX4_undo_13 : decode cX4_undo 13 = .ok (.aload_n 0, 1) := by decide +kernel
theorem dX4_undo_14 : decode cX4_undo 14 = .ok (.getfield 19, 3) := by decide +kernel
theorem dX4_undo_17 : decode cX4_undo 17 = .ok (.aload_n 0, 1) := by decide +kernel
theorem dX4_undo_18 : decode cX4_undo 18 = .ok (.getfield 30, 3) := by decide +kernel
theorem dX4_undo_21 : decode cX4_undo 21 = .ok (.invokevirtual 200, 3) := by decide +kernel
theorem dX4_undo_24 : decode cX4_undo 24 = .ok (.aload_n 0, 1) := by decide +kernel
theorem dX4_undo_25 : decode cX4_undo 25 = .ok (.getfield 19, 3) := by decide +kernel
theorem dX4_undo_28 : decode cX4_undo 28 = .ok (.getfield 189, 3) := by decide +kernel
theorem dX4_undo_31 : decode cX4_undo 31 = .ok (.ireturn, 1) := by decide +kernel
theorem dX4_save_0 : decode cX4_save 0 = .ok (.iload_n 1, 1) := by decide +kernel
theorem dX4_save_1 : decode cX4_save 1 = .ok (.ifCond .lt 8, 3) := by decide +kernel
theorem dX4_save_4 : decode cX4_save 4 = .ok (.iload_n 1, 1) := by decide +kernel
theorem dX4_save_5 : decode cX4_save 5 = .ok (.iconst 2, 1) := by decide +kernel
theorem dX4_save_6 : decode cX4_save 6 = .ok (.if_icmp .lt 6, 3) := by decide +kernel
theorem dX4_save_9 : decode cX4_save 9 = .ok (.bipush (-2), 2) := by decide +kernel
theorem dX4_save_11 : decode cX4_save 11 = .ok (.ireturn, 1) := by decide +kernel
theorem dX4_save_12 : decode cX4_save 12 = .ok (.aload_n 0, 1) := by decide +kernel
theorem dX4_save_13 : decode cX4_save 13 = .ok (.getfield 25, 3) := by decide +kernel
theorem dX4_save_16 : decode cX4_save 16 = .ok (.iload_n 1, 1) := by decide +kernel
theorem dX4_save_17 : decode cX4_save 17 = .ok (.aaload, 1) := by decide +kernel
theorem dX4_save_18 : decode cX4_save 18 = .ok (.ifnonnull 16, 3) := by decide +kernel
theorem dX4_save_21 : decode cX4_save 21 = .ok (.aload_n 0, 1) := by decide +kernel
theorem dX4_save_22 : decode cX4_save 22 = .ok (.getfield 25, 3) := by decide +kernel
theorem dX4_save_25 : decode cX4_save 25 = .ok (.iload_n 1, 1) := by decide +kernel
theorem dX4_save_26 : decode cX4_save 26 = .ok (.new 23, 3) := by decide +kernel
theorem dX4_save_29 : decode cX4_save 29 = .ok (.dup, 1) := by decide +kernel
theorem dX4_save_30 : decode cX4_save 30 = .ok (.invokespecial 29, 3) := by decide +kernel
theorem dX4_save_33 : decode cX4_save 33 = .ok (.aastore, 1) := by decide +kernel
theorem dX4_save_34 : decode cX4_save 34 = .ok (.aload_n 0, 1) := by decide +kernel
theorem dX4_save_35 : decode cX4_save 35 = .ok (.getfield 25, 3) := by decide +kernel
theorem dX4_save_38 : decode cX4_save 38 = .ok (.iload_n 1, 1) := by decide +kernel
theorem dX4_save_39 : decode cX4_save 39 = .ok (.aaload, 1) := by decide +kernel
theorem dX4_save_40 : decode cX4_save 40 = .ok (.aload_n 0, 1) := by decide +kernel
theorem dX4_save_41 : decode cX4_save 41 = .ok (.getfield 30, 3) := by decide +kernel
theorem dX4_save_44 : decode cX4_save 44 = .ok (.invokevirtual 69, 3) := by decide +kernel
theorem dX4_save_47 : decode cX4_save 47 = .ok (.aload_n 0, 1) := by decide +kernel
theorem dX4_save_48 : decode cX4_save 48 = .ok (.getfield 30, 3) := by decide +kernel
theorem dX4_save_51 : decode cX4_save 51 = .ok (.getfield 173, 3) := by decide +kernel
theorem dX4_save_54 : decode cX4_save 54 = .ok (.ireturn, 1) := by decide +kernel
theorem dX4_restore_0 : decode cX4_restore 0 = .ok (.iload_n 1, 1) := by decide +kernel
theorem dX4_restore_1 : decode cX4_restore 1 = .ok (.ifCond .lt 8, 3) := by decide +kernel
theorem dX4_restore_4 : decode cX4_restore 4 = .ok (.iload_n 1, 1) := by decide +kernel
theorem dX4_restore_5 : decode cX4_restore 5 = .ok (.iconst 2, 1) := by decide +kernel
theorem dX4_restore_6 : decode cX4_restore 6 = .ok (.if_icmp .lt 6, 3) := by decide +kernel
theorem dX4_restore_9 : decode cX4_restore 9 = .ok (.bipush (-2), 2) := by decide +kernel
theorem dX4_restore_11 : decode cX4_restore 11 = .ok (.ireturn, 1) := by decide +kernel
theorem dX4_restore_12 : decode cX4_restore 12 = .ok (.aload_n 0, 1) := by decide +kernel
theorem dX4_restore_13 : decode cX4_restore 13 = .ok (.getfield 25, 3) := by decide +kernel
theorem dX4_restore_16 : decode cX4_restore 16 = .ok (.iload_n 1, 1) := by decide +kernel
theorem dX4_restore_17 : decode cX4_restore 17 = .ok (.aaload, 1) := by decide +kernel
theorem dX4_restore_18 : decode cX4_restore 18 = .ok (.ifnonnull 6, 3) := by decide +kernel
theorem dX4_restore_21 : decode cX4_restore 21 = .ok (.bipush (-5), 2) := by decide +kernel
theorem dX4_restore_23 : decode cX4_restore 23 = .ok (.ireturn, 1) := by decide +kernel
theorem dX4_restore_24 : decode cX4_restore 24 = .ok (.aload_n 0, 1) := by decide +kernel
theorem dX4_restore_25 : decode cX4_restore 25 = .ok (.getfield 19, 3) := by decide +kernel
theorem dX4_restore_28 : decode cX4_restore 28 = .ok (.aload_n 0, 1) := by decide +kernel
theorem dX4_restore_29 : decode cX4_restore 29 = .ok (.getfield 30, 3) := by decide +kernel
theorem dX4_restore_32 : decode cX4_restore 32 = .ok (.invokevirtual 44, 3) := by decide +kernel
theorem dX4_restore_35 : decode cX4_restore 35 = .ok (.aload_n 0, 1) := by decide +kernel
theorem dX4_restore_36 : decode cX4_restore 36 = .ok (.getfield 30, 3) := by decide +kernel
theorem dX4_restore_39 : decode cX4_restore 39 = .ok (.aload_n 0, 1) := by decide +kernel
theorem dX4_restore_40 : decode cX4_restore 40 = .ok (.getfield 25, 3) := by decide +kernel
theorem dX4_restore_43 : decode cX4_restore 43 = .ok (.iload_n 1, 1) := by decide +kernel
theorem dX4_restore_44 : decode cX4_restore 44 = .ok (.aaload, 1) := by decide +kernel
theorem dX4_restore_45 : decode cX4_restore 45 = .ok (.invokevirtual 69, 3) := by decide +kernel
theorem dX4_restore_48 : decode cX4_restore 48 = .ok (.aload_n 0, 1) := by decide +kernel
theorem dX4_restore_49 : decode cX4_restore 49 = .ok (.getfield 30, 3) := by decide +kernel
theorem dX4_restore_52 : decode cX4_restore 52 = .ok (.getfield 173, 3) := by decide +kernel
theorem dX4_restore_55 : decode cX4_restore 55 = .ok (.ireturn, 1) := by decide +kernel
theorem dX4_at_0 : decode cX4_at 0 = .ok (.iload_n 1, 1) := by decide +kernel
theorem dX4_at_1 : decode cX4_at 1 = .ok (.ifCond .lt 9, 3) := by decide +kernel
theorem dX4_at_4 : decode cX4_at 4 = .ok (.iload_n 1, 1) := by decide +kernel
theorem dX4_at_5 : decode cX4_at 5 = .ok (.aload_n 0, 1) := by decide +kernel
theorem dX4_at_6 : decode cX4_at 6 = .ok (.arraylength, 1) := by decide +kernel
theorem dX4_at_7 : decode cX4_at 7 = .ok (.if_icmp .lt 7, 3) := by decide +kernel
theorem dX4_at_10 : decode cX4_at 10 = .ok (.iconst (-1), 1) := by decide +kernel
theorem dX4_at_11 : decode cX4_at 11 = .ok (.goto 6, 3) := by decide +kernel
theorem dX4_at_14 : decode cX4_at 14 = .ok (.aload_n 0, 1) := by decide +kernel
theorem dX4_at_15 : decode cX4_at 15 = .ok (.iload_n 1, 1) := by decide +kernel
theorem dX4_at_16 : decode cX4_at 16 = .ok (.iaload, 1) := by decide +kernel
theorem dX4_at_17 : decode cX4_at 17 = .ok (.ireturn, 1) := by decide +kernel
theorem dX4_store_0 : decode cX4_store 0 = .ok (.iload_n 1, 1) := by decide +kernel
theorem dX4_store_1 : decode cX4_store 1 = .ok (.ifCond .lt 13, 3) := by decide +kernel
theorem dX4_store_4 : decode cX4_store 4 = .ok (.iload_n 1, 1) := by decide +kernel
theorem dX4_store_5 : decode cX4_store 5 = .ok (.aload_n 0, 1) := by decide +kernel
theorem dX4_store_6 : decode cX4_store 6 = .ok (.arraylength, 1) := by decide +kernel
theorem dX4_store_7 : decode cX4_store 7 = .ok (.if_icmp .ge 7, 3) := by decide +kernel
theorem dX4_store_10 : decode cX4_store 10 = .ok (.aload_n 0, 1) := by decide +kernel
theorem dX4_store_11 : decode cX4_store 11 = .ok (.iload_n 1, 1) := by decide +kernel
theorem dX4_store_12 : decode cX4_store 12 = .ok (.iload_n 2, 1) := by decide +kernel
theorem dX4_store_13 : decode cX4_store 13 = .ok (.iastore, 1) := by decide +kernel
theorem dX4_store_14 : decode cX4_store 14 = .ok (.return_, 1) := by decide +kernel
theorem dX5_init_0 : decode cX5_init 0 = .ok (.aload_n 0, 1) := by decide +kernel
theorem dX5_init_1 : decode cX5_init 1 = .ok (.invokespecial 1, 3) := by decide +kernel
theorem dX5_init_4 : decode cX5_init 4 = .ok (.aload_n 0, 1) := by decide +kernel
theorem dX5_init_5 : decode cX5_init 5 = .ok (.sipush 763, 3) := by decide +kernel
theorem dX5_init_8 : decode cX5_init 8 = .ok (.newarray .int, 2) := by decide +kernel
theorem dX5_init_10 : decode cX5_init 10 = .ok (.putfield 7, 3) := by decide +kernel
theorem dX5_init_13 : decode cX5_init 13 = .ok (.aload_n 0, 1) := by decide +kernel
theorem dX5_init_14 : decode cX5_init 14 = .ok (.sipush 763, 3) := by decide +kernel
theorem dX5_init_17 : decode cX5_init 17 = .ok (.newarray .int, 2) := by decide +kernel
theorem dX5_init_19 : decode cX5_init 19 = .ok (.putfield 13, 3) := by decide +kernel
theorem dX5_init_22 : decode cX5_init 22 = .ok (.aload_n 0, 1) := by decide +kernel
theorem dX5_init_23 : decode cX5_init 23 = .ok (.sipush 763, 3) := by decide +kernel
theorem dX5_init_26 : decode cX5_init 26 = .ok (.newarray .int, 2) := by decide +kernel
theorem dX5_init_28 : decode cX5_init 28 = .ok (.putfield 16, 3) := by decide +kernel
theorem dX5_init_31 : decode cX5_init 31 = .ok (.aload_n 0, 1) := by decide +kernel
theorem dX5_init_32 : decode cX5_init 32 = .ok (.sipush 4578, 3) := by decide +kernel
theorem dX5_init_35 : decode cX5_init 35 = .ok (.newarray .int, 2) := by decide +kernel
theorem dX5_init_37 : decode cX5_init 37 = .ok (.putfield 19, 3) := by decide +kernel
theorem dX5_init_40 : decode cX5_init 40 = .ok (.aload_n 0, 1) := by decide +kernel
theorem dX5_init_41 : decode cX5_init 41 = .ok (.sipush 1526, 3) := by decide +kernel
theorem dX5_init_44 : decode cX5_init 44 = .ok (.newarray .int, 2) := by decide +kernel
theorem dX5_init_46 : decode cX5_init 46 = .ok (.putfield 22, 3) := by decide +kernel
theorem dX5_init_49 : decode cX5_init 49 = .ok (.aload_n 0, 1) := by decide +kernel
theorem dX5_init_50 : decode cX5_init 50 = .ok (.iconst 2, 1) := by decide +kernel
theorem dX5_init_51 : decode cX5_init 51 = .ok (.newarray .int, 2) := by decide +kernel
theorem dX5_init_53 : decode cX5_init 53 = .ok (.putfield 25, 3) := by decide +kernel
theorem dX5_init_56 : decode cX5_init 56 = .ok (.aload_n 0, 1) := by decide +kernel
theorem dX5_init_57 : decode cX5_init 57 = .ok (.bipush 80, 2) := by decide +kernel
theorem dX5_init_59 : decode cX5_init 59 = .ok (.newarray .int, 2) := by decide +kernel
theorem dX5_init_61 : decode cX5_init 61 = .ok (.putfield 28, 3) := by decide +kernel
theorem dX5_init_64 : decode cX5_init 64 = .ok (.aload_n 0, 1) := by decide +kernel
theorem dX5_init_65 : decode cX5_init 65 = .ok (.bipush 40, 2) := by decide +kernel
theorem dX5_init_67 : decode cX5_init 67 = .ok (.newarray .int, 2) := by decide +kernel
theorem dX5_init_69 : decode cX5_init 69 = .ok (.putfield 31, 3) := by decide +kernel
theorem dX5_init_72 : decode cX5_init 72 = .ok (.aload_n 0, 1) := by decide +kernel
theorem dX5_init_73 : decode cX5_init 73 = .ok (.bipush 40, 2) := by decide +kernel
theorem dX5_init_75 : decode cX5_init 75 = .ok (.newarray .int, 2) := by decide +kernel
theorem dX5_init_77 : decode cX5_init 77 = .ok (.putfield 34, 3) := by decide +kernel
theorem dX5_init_80 : decode cX5_init 80 = .ok (.aload_n 0, 1) := by decide +kernel
theorem dX5_init_81 : decode cX5_init 81 = .ok (.getfield 7, 3) := by decide +kernel
theorem dX5_init_84 : decode cX5_init 84 = .ok (.iconst 0, 1) := by decide +kernel
theorem dX5_init_85 : decode cX5_init 85 = .ok (.bipush 6, 2) := by decide +kernel
theorem dX5_init_87 : decode cX5_init 87 = .ok (.iastore, 1) := by decide +kernel
theorem dX5_init_88 : decode cX5_init 88 = .ok (.aload_n 0, 1) := by decide +kernel
theorem dX5_init_89 : decode cX5_init 89 = .ok (.getfield 7, 3) := by decide +kernel
theorem dX5_init_92 : decode cX5_init 92 = .ok (.iconst 1, 1) := by decide +kernel
theorem dX5_init_93 : decode cX5_init 93 = .ok (.bipush 8, 2) := by decide +kernel
theorem dX5_init_95 : decode cX5_init 95 = .ok (.iastore, 1) := by decide +kernel
theorem dX5_init_96 : decode cX5_init 96 = .ok (.return_, 1) := by decide +kernel
theorem dX5_moves_0 : decode cX5_moves 0 = .ok (.iconst 0, 1) := by decide +kernel
theorem dX5_moves_1 : decode cX5_moves 1 = .ok (.istore 4, 2) := by decide +kernel
theorem dX5_moves_3 : decode cX5_moves 3 = .ok (.iload 4, 2) := by decide +kernel
theorem dX5_moves_5 : decode cX5_moves 5 = .ok (.sipush 763, 3) := by decide +kernel
theorem dX5_moves_8 : decode cX5_moves 8 = .ok (.if_icmp .ge 21, 3) := by decide +kernel
theorem dX5_moves_11 : decode cX5_moves 11 = .ok (.aload_n 2, 1) := by decide +kernel
theorem dX5_moves_12 : decode cX5_moves 12 = .ok (.iload_n 3, 1) := by decide +kernel
theorem dX5_moves_13 : decode cX5_moves 13 = .ok (.iload 4, 2) := by decide +kernel
theorem dX5_moves_15 : decode cX5_moves 15 = .ok (.iadd, 1) := by decide +kernel
theorem dX5_moves_16 : decode cX5_moves 16 = .ok (.aload_n 0, 1) := by decide +kernel
theorem dX5_moves_17 : decode cX5_moves 17 = .ok (.iload_n 1, 1) := by decide +kernel
theorem dX5_moves_18 : decode cX5_moves 18 = .ok (.iload 4, 2) := by decide +kernel
theorem dX5_moves_20 : decode cX5_moves 20 = .ok (.iadd, 1) := by decide +kernel
theorem dX5_moves_21 : decode cX5_moves 21 = .ok (.iaload, 1) := by decide +kernel
theorem dX5_moves_22 : decode cX5_moves 22 = .ok (.iastore, 1) := by decide +kernel
theorem dX5_moves_23 : decode cX5_moves 23 = .ok (.iinc 4 1, 3) := by decide +kernel
theorem dX5_moves_26 : decode cX5_moves 26 = .ok (.goto (-23), 3) := by decide +kernel
theorem dX5_moves_29 : decode cX5_moves 29 = .ok (.return_, 1) := by decide +kernel
theorem dX5_within_0 : decode cX5_within 0 = .ok (.iload_n 0, 1) := by decide +kernel
theorem dX5_within_1 : decode cX5_within 1 = .ok (.iload_n 1, 1) := by decide +kernel
theorem dX5_within_2 : decode cX5_within 2 = .ok (.if_icmp .lt 12, 3) := by decide +kernel
theorem dX5_within_5 : decode cX5_within 5 = .ok (.iload_n 0, 1) := by decide +kernel
theorem dX5_within_6 : decode cX5_within 6 = .ok (.iload_n 2, 1) := by decide +kernel
theorem dX5_within_7 : decode cX5_within 7 = .ok (.if_icmp .gt 7, 3) := by decide +kernel
theorem dX5_within_10 : decode cX5_within 10 = .ok (.iconst 1, 1) := by decide +kernel
theorem dX5_within_11 : decode cX5_within 11 = .ok (.goto 4, 3) := by decide +kernel
theorem dX5_within_14 : decode cX5_within 14 = .ok (.iconst 0, 1) := by decide +kernel
theorem dX5_within_15 : decode cX5_within 15 = .ok (.ireturn, 1) := by decide +kernel
theorem dX5_record_0 : decode cX5_record 0 = .ok (.aload_n 0, 1) := by decide +kernel
theorem dX5_record_1 : decode cX5_record 1 = .ok (.getfield 37, 3) := by decide +kernel
theorem dX5_record_4 : decode cX5_record 4 = .ok (.bipush 6, 2) := by decide +kernel
theorem dX5_record_6 : decode cX5_record 6 = .ok (.if_icmp .ne 44, 3) := by decide +kernel
theorem dX5_record_9 : decode cX5_record 9 = .ok (.iconst 0, 1) := by decide +kernel
theorem dX5_record_10 : decode cX5_record 10 = .ok (.istore_n 2, 1) := by decide +kernel
theorem dX5_record_11 : decode cX5_record 11 = .ok (.iload_n 2, 1) := by decide +kernel
theorem dX5_record_12 : decode cX5_record 12 = .ok (.sipush 3815, 3) := by decide +kernel
theorem dX5_record_15 : decode cX5_record 15 = .ok (.if_icmp .ge 25, 3) := by decide +kernel
theorem dX5_record_18 : decode cX5_record 18 = .ok (.aload_n 0, 1) := by decide +kernel
theorem dX5_record_19 : decode cX5_record 19 = .ok (.getfield 19, 3) := by decide +kernel
theorem dX5_record_22 : decode cX5_record 22 = .ok (.iload_n 2, 1) := by decide +kernel
theorem dX5_record_23 : decode cX5_record 23 = .ok (.aload_n 0, 1) := by decide +kernel
theorem dX5_record_24 : decode cX5_record 24 = .ok (.getfield 19, 3) := by decide +kernel
theorem dX5_record_27 : decode cX5_record 27 = .ok (.iload_n 2, 1) := by decide +kernel
theorem dX5_record_28 : decode cX5_record 28 = .ok (.sipush 763, 3) := by decide +kernel
theorem dX5_record_31 : decode cX5_record 31 = .ok (.iadd, 1) := by decide +kernel
theorem dX5_record_32 : decode cX5_record 32 = .ok (.iaload, 1) := by decide +kernel
theorem dX5_record_33 : decode cX5_record 33 = .ok (.iastore, 1) := by decide +kernel
theorem dX5_record_34 : decode cX5_record 34 = .ok (.iinc 2 1, 3) := by decide +kernel
theorem dX5_record_37 : decode cX5_record 37 = .ok (.goto (-26), 3) := by decide +kernel
theorem dX5_record_40 : decode cX5_record 40 = .ok (.aload_n 0, 1) := by decide +kernel
theorem dX5_record_41 : decode cX5_record 41 = .ok (.dup, 1) := by decide +kernel
theorem dX5_record_42 : decode cX5_record 42 = .ok (.getfield 37, 3) := by decide +kernel
theorem dX5_record_45 : decode cX5_record 45 = .ok (.iconst 1, 1) := by decide +kernel
theorem dX5_record_46 : decode cX5_record 46 = .ok (.isub, 1) := by decide +kernel
theorem dX5_record_47 : decode cX5_record 47 = .ok (.putfield 37, 3) := by decide +kernel
theorem dX5_record_50 : decode cX5_record 50 = .ok (.aload_n 1, 1) := by decide +kernel
theorem dX5_record_51 : decode cX5_record 51 = .ok (.iconst 0, 1) := by decide +kernel
theorem dX5_record_52 : decode cX5_record 52 = .ok (.aload_n 0, 1) := by decide +kernel
theorem dX5_record_53 : decode cX5_record 53 = .ok (.getfield 19, 3) := by decide +kernel
theorem dX5_record_56 : decode cX5_record 56 = .ok (.aload_n 0, 1) := by decide +kernel
theorem dX5_record_57 : decode cX5_record 57 = .ok (.getfield 37, 3) := by decide +kernel
theorem dX5_record_60 : decode cX5_record 60 = .ok (.sipush 763, 3) := by decide +kernel
theorem dX5_record_63 : decode cX5_record 63 = .ok (.imul, 1) := by decide +kernel
theorem dX5_record_64 : decode cX5_record 64 = .ok (.invokestatic 41, 3) := by decide +kernel
theorem dX5_record_67 : decode cX5_record 67 = .ok (.aload_n 0, 1) := by decide +kernel
theorem dX5_record_68 : decode cX5_record 68 = .ok (.dup, 1) := by decide +kernel
theorem dX5_record_69 : decode cX5_record 69 = .ok (.getfield 37, 3) := by decide +kernel
theorem dX5_record_72 : decode cX5_record 72 = .ok (.iconst 1, 1) := by decide +kernel
theorem dX5_record_73 : decode cX5_record 73 = .ok (.iadd, 1) := by decide +kernel
theorem dX5_record_74 : decode cX5_record 74 = .ok (.putfield 37, 3) := by decide +kernel
theorem dX5_record_77 : decode cX5_record 77 = .ok (.return_, 1) := by decide +kernel
theorem dX5_kindOf_0 : decode cX5_kindOf 0 = .ok (.iload_n 0, 1) := by decide +kernel
theorem dX5_kindOf_1 : decode cX5_kindOf 1 = .ok (.iconst 3, 1) := by decide +kernel
theorem dX5_kindOf_2 : decode cX5_kindOf 2 = .ok (.iand, 1) := by decide +kernel
theorem dX5_kindOf_3 : decode cX5_kindOf 3 = .ok (.ireturn, 1) := by decide +kernel
theorem dX5_rowOf_0 : decode cX5_rowOf 0 = .ok (.iload_n 0, 1) := by decide +kernel
theorem dX5_rowOf_1 : decode cX5_rowOf 1 = .ok (.iconst 2, 1) := by decide +kernel
theorem dX5_rowOf_2 : decode cX5_rowOf 2 = .ok (.ishr, 1) := by decide +kernel
theorem dX5_rowOf_3 : decode cX5_rowOf 3 = .ok (.bipush 31, 2) := by decide +kernel
theorem dX5_rowOf_5 : decode cX5_rowOf 5 = .ok (.iand, 1) := by decide +kernel
theorem dX5_rowOf_6 : decode cX5_rowOf 6 = .ok (.ireturn, 1) := by decide +kernel
theorem dX5_numberOf_0 : decode cX5_numberOf 0 = .ok (.iload_n 0, 1) := by decide +kernel
theorem dX5_numberOf_1 : decode cX5_numberOf 1 = .ok (.bipush 7, 2) := by decide +kernel
theorem dX5_numberOf_3 : decode cX5_numberOf 3 = .ok (.ishr, 1) := by decide +kernel
theorem dX5_numberOf_4 : decode cX5_numberOf 4 = .ok (.bipush 63, 2) := by decide +kernel
theorem dX5_numberOf_6 : decode cX5_numberOf 6 = .ok (.iand, 1) := by decide +kernel
theorem dX5_numberOf_7 : decode cX5_numberOf 7 = .ok (.ireturn, 1) := by decide +kernel
theorem dX5_lettersOf_0 : decode cX5_lettersOf 0 = .ok (.iload_n 0, 1) := by decide +kernel
theorem dX5_lettersOf_1 : decode cX5_lettersOf 1 = .ok (.bipush 13, 2) := by decide +kernel
theorem dX5_lettersOf_3 : decode cX5_lettersOf 3 = .ok (.ishr, 1) := by decide +kernel
theorem dX5_lettersOf_4 : decode cX5_lettersOf 4 = .ok (.ireturn, 1) := by decide +kernel
theorem dX5_thing_0 : decode cX5_thing 0 = .ok (.iload_n 0, 1) := by decide +kernel
theorem dX5_thing_1 : decode cX5_thing 1 = .ok (.iconst 4, 1) := by decide +kernel
theorem dX5_thing_2 : decode cX5_thing 2 = .ok (.iload_n 1, 1) := by decide +kernel
theorem dX5_thing_3 : decode cX5_thing 3 = .ok (.imul, 1) := by decide +kernel
theorem dX5_thing_4 : decode cX5_thing 4 = .ok (.iadd, 1) := by decide +kernel
theorem dX5_thing_5 : decode cX5_thing 5 = .ok (.sipush 128, 3) := by decide +kernel
theorem dX5_thing_8 : decode cX5_thing 8 = .ok (.iload_n 2, 1) := by decide +kernel
theorem dX5_thing_9 : decode cX5_thing 9 = .ok (.imul, 1) := by decide +kernel
theorem dX5_thing_10 : decode cX5_thing 10 = .ok (.iadd, 1) := by decide +kernel
theorem dX5_thing_11 : decode cX5_thing 11 = .ok (.sipush 8192, 3) := by decide +kernel
theorem dX5_thing_14 : decode cX5_thing 14 = .ok (.iload_n 3, 1) := by decide +kernel
theorem dX5_thing_15 : decode cX5_thing 15 = .ok (.imul, 1) := by decide +kernel
theorem dX5_thing_16 : decode cX5_thing 16 = .ok (.iadd, 1) := by decide +kernel
theorem dX5_thing_17 : decode cX5_thing 17 = .ok (.ireturn, 1) := by decide +kernel
theorem dX5_cellsOf_0 : decode cX5_cellsOf 0 = .ok (.iload_n 0, 1) := by decide +kernel
theorem dX5_cellsOf_1 : decode cX5_cellsOf 1 = .ok (.invokestatic 45, 3) := by decide +kernel
theorem dX5_cellsOf_4 : decode cX5_cellsOf 4 = .ok (.tableswitch 44 1 3 #[28, 35, 42], 28) := by decide +kernel
theorem dX5_cellsOf_32 : decode cX5_cellsOf 32 = .ok (.iconst 2, 1) := by decide +kernel
theorem dX5_cellsOf_33 : decode cX5_cellsOf 33 = .ok (.iload_n 0, 1) := by decide +kernel
theorem dX5_cellsOf_34 : decode cX5_cellsOf 34 = .ok (.invokestatic 49, 3) := by decide +kernel
theorem dX5_cellsOf_37 : decode cX5_cellsOf 37 = .ok (.iadd, 1) := by decide +kernel
theorem dX5_cellsOf_38 : decode cX5_cellsOf 38 = .ok (.ireturn, 1) := by decide +kernel
theorem dX5_cellsOf_39 : decode cX5_cellsOf 39 = .ok (.iconst 1, 1) := by decide +kernel
theorem dX5_cellsOf_40 : decode cX5_cellsOf 40 = .ok (.iload_n 0, 1) := by decide +kernel
theorem dX5_cellsOf_41 : decode cX5_cellsOf 41 = .ok (.invokestatic 49, 3) := by decide +kernel
theorem dX5_cellsOf_44 : decode cX5_cellsOf 44 = .ok (.iadd, 1) := by decide +kernel
theorem dX5_cellsOf_45 : decode cX5_cellsOf 45 = .ok (.ireturn, 1) := by decide +kernel
theorem dX5_cellsOf_46 : decode cX5_cellsOf 46 = .ok (.iconst 1, 1) := by decide +kernel
theorem dX5_cellsOf_47 : decode cX5_cellsOf 47 = .ok (.ireturn, 1) := by decide +kernel
theorem dX5_cellsOf_48 : decode cX5_cellsOf 48 = .ok (.iconst 0, 1) := by decide +kernel
theorem dX5_cellsOf_49 : decode cX5_cellsOf 49 = .ok (.ireturn, 1) := by decide +kernel
theorem dX5_freeOf_0 : decode cX5_freeOf 0 = .ok (.bipush 40, 2) := by decide +kernel
theorem dX5_freeOf_2 : decode cX5_freeOf 2 = .ok (.istore_n 2, 1) := by decide +kernel
theorem dX5_freeOf_3 : decode cX5_freeOf 3 = .ok (.iconst 0, 1) := by decide +kernel
theorem dX5_freeOf_4 : decode cX5_freeOf 4 = .ok (.istore_n 3, 1) := by decide +kernel
theorem dX5_freeOf_5 : decode cX5_freeOf 5 = .ok (.iload_n 3, 1) := by decide +kernel
theorem dX5_freeOf_6 : decode cX5_freeOf 6 = .ok (.bipush 40, 2) := by decide +kernel
theorem dX5_freeOf_8 : decode cX5_freeOf 8 = .ok (.if_icmp .ge 30, 3) := by decide +kernel
theorem dX5_freeOf_11 : decode cX5_freeOf 11 = .ok (.iload_n 2, 1) := by decide +kernel
theorem dX5_freeOf_12 : decode cX5_freeOf 12 = .ok (.aload_n 0, 1) := by decide +kernel
theorem dX5_freeOf_13 : decode cX5_freeOf 13 = .ok (.getfield 7, 3) := by decide +kernel
theorem dX5_freeOf_16 : decode cX5_freeOf 16 = .ok (.sipush 363, 3) := by decide +kernel
theorem dX5_freeOf_19 : decode cX5_freeOf 19 = .ok (.bipush 40, 2) := by decide +kernel
theorem dX5_freeOf_21 : decode cX5_freeOf 21 = .ok (.iload_n 1, 1) := by decide +kernel
theorem dX5_freeOf_22 : decode cX5_freeOf 22 = .ok (.imul, 1) := by decide +kernel
theorem dX5_freeOf_23 : decode cX5_freeOf 23 = .ok (.iadd, 1) := by decide +kernel
theorem dX5_freeOf_24 : decode cX5_freeOf 24 = .ok (.iload_n 3, 1) := by decide +kernel
theorem dX5_freeOf_25 : decode cX5_freeOf 25 = .ok (.iadd, 1) := by decide +kernel
theorem dX5_freeOf_26 : decode cX5_freeOf 26 = .ok (.iaload, 1) := by decide +kernel
theorem dX5_freeOf_27 : decode cX5_freeOf 27 = .ok (.invokestatic 52, 3) := by decide +kernel
theorem dX5_freeOf_30 : decode cX5_freeOf 30 = .ok (.isub, 1) := by decide +kernel
theorem dX5_freeOf_31 : decode cX5_freeOf 31 = .ok (.istore_n 2, 1) := by decide +kernel
theorem dX5_freeOf_32 : decode cX5_freeOf 32 = .ok (.iinc 3 1, 3) := by decide +kernel
theorem dX5_freeOf_35 : decode cX5_freeOf 35 = .ok (.goto (-30), 3) := by decide +kernel
theorem dX5_freeOf_38 : decode cX5_freeOf 38 = .ok (.iload_n 2, 1) := by decide +kernel
theorem dX5_freeOf_39 : decode cX5_freeOf 39 = .ok (.ireturn, 1) := by decide +kernel
theorem dX5_slotsOf_0 : decode cX5_slotsOf 0 = .ok (.iconst 0, 1) := by decide +kernel
theorem dX5_slotsOf_1 : decode cX5_slotsOf 1 = .ok (.istore_n 2, 1) := by decide +kernel
theorem dX5_slotsOf_2 : decode cX5_slotsOf 2 = .ok (.iconst 0, 1) := by decide +kernel
theorem dX5_slotsOf_3 : decode cX5_slotsOf 3 = .ok (.istore_n 3, 1) := by decide +kernel
theorem dX5_slotsOf_4 : decode cX5_slotsOf 4 = .ok (.iload_n 3, 1) := by decide +kernel
theorem dX5_slotsOf_5 : decode cX5_slotsOf 5 = .ok (.bipush 40, 2) := by decide +kernel
theorem dX5_slotsOf_7 : decode cX5_slotsOf 7 = .ok (.if_icmp .ge 35, 3) := by decide +kernel
theorem dX5_slotsOf_10 : decode cX5_slotsOf 10 = .ok (.aload_n 0, 1) := by decide +kernel
theorem dX5_slotsOf_11 : decode cX5_slotsOf 11 = .ok (.getfield 7, 3) := by decide +kernel
theorem dX5_slotsOf_14 : decode cX5_slotsOf 14 = .ok (.sipush 363, 3) := by decide +kernel
theorem dX5_slotsOf_17 : decode cX5_slotsOf 17 = .ok (.bipush 40, 2) := by decide +kernel
theorem dX5_slotsOf_19 : decode cX5_slotsOf 19 = .ok (.iload_n 1, 1) := by decide +kernel
theorem dX5_slotsOf_20 : decode cX5_slotsOf 20 = .ok (.imul, 1) := by decide +kernel
theorem dX5_slotsOf_21 : decode cX5_slotsOf 21 = .ok (.iadd, 1) := by decide +kernel
theorem dX5_slotsOf_22 : decode cX5_slotsOf 22 = .ok (.iload_n 3, 1) := by decide +kernel
theorem dX5_slotsOf_23 : decode cX5_slotsOf 23 = .ok (.iadd, 1) := by decide +kernel
theorem dX5_slotsOf_24 : decode cX5_slotsOf 24 = .ok (.iaload, 1) := by decide +kernel
theorem dX5_slotsOf_25 : decode cX5_slotsOf 25 = .ok (.ifCond .eq 9, 3) := by decide +kernel
theorem dX5_slotsOf_28 : decode cX5_slotsOf 28 = .ok (.iload_n 3, 1) := by decide +kernel
theorem dX5_slotsOf_29 : decode cX5_slotsOf 29 = .ok (.iconst 1, 1) := by decide +kernel
theorem dX5_slotsOf_30 : decode cX5_slotsOf 30 = .ok (.iadd, 1) := by decide +kernel
theorem dX5_slotsOf_31 : decode cX5_slotsOf 31 = .ok (.goto 4, 3) := by decide +kernel
theorem dX5_slotsOf_34 : decode cX5_slotsOf 34 = .ok (.iload_n 2, 1) := by decide +kernel
theorem dX5_slotsOf_35 : decode cX5_slotsOf 35 = .ok (.istore_n 2, 1) := by decide +kernel
theorem dX5_slotsOf_36 : decode cX5_slotsOf 36 = .ok (.iinc 3 1, 3) := by decide +kernel
theorem dX5_slotsOf_39 : decode cX5_slotsOf 39 = .ok (.goto (-35), 3) := by decide +kernel
theorem dX5_slotsOf_42 : decode cX5_slotsOf 42 = .ok (.iload_n 2, 1) := by decide +kernel
theorem dX5_slotsOf_43 : decode cX5_slotsOf 43 = .ok (.ireturn, 1) := by decide +kernel
theorem dX5_thingsOn_0 : decode cX5_thingsOn 0 = .ok (.iconst 0, 1) := by decide +kernel
theorem dX5_thingsOn_1 : decode cX5_thingsOn 1 = .ok (.istore_n 3, 1) := by decide +kernel
theorem dX5_thingsOn_2 : decode cX5_thingsOn 2 = .ok (.iconst 0, 1) := by decide +kernel
theorem dX5_thingsOn_3 : decode cX5_thingsOn 3 = .ok (.istore 4, 2) := by decide +kernel
theorem dX5_thingsOn_5 : decode cX5_thingsOn 5 = .ok (.iload 4, 2) := by decide +kernel
theorem dX5_thingsOn_7 : decode cX5_thingsOn 7 = .ok (.bipush 40, 2) := by decide +kernel
theorem dX5_thingsOn_9 : decode cX5_thingsOn 9 = .ok (.if_icmp .ge 53, 3) := by decide +kernel
theorem dX5_thingsOn_12 : decode cX5_thingsOn 12 = .ok (.aload_n 0, 1) := by decide +kernel
theorem dX5_thingsOn_13 : decode cX5_thingsOn 13 = .ok (.getfield 7, 3) := by decide +kernel
theorem dX5_thingsOn_16 : decode cX5_thingsOn 16 = .ok (.sipush 363, 3) := by decide +kernel
theorem dX5_thingsOn_19 : decode cX5_thingsOn 19 = .ok (.bipush 40, 2) := by decide +kernel
theorem dX5_thingsOn_21 : decode cX5_thingsOn 21 = .ok (.iload_n 1, 1) := by decide +kernel
theorem dX5_thingsOn_22 : decode cX5_thingsOn 22 = .ok (.imul, 1) := by decide +kernel
theorem dX5_thingsOn_23 : decode cX5_thingsOn 23 = .ok (.iadd, 1) := by decide +kernel
theorem dX5_thingsOn_24 : decode cX5_thingsOn 24 = .ok (.iload 4, 2) := by decide +kernel
theorem dX5_thingsOn_26 : decode cX5_thingsOn 26 = .ok (.iadd, 1) := by decide +kernel
theorem dX5_thingsOn_27 : decode cX5_thingsOn 27 = .ok (.iaload, 1) := by decide +kernel
theorem dX5_thingsOn_28 : decode cX5_thingsOn 28 = .ok (.istore 5, 2) := by decide +kernel
theorem dX5_thingsOn_30 : decode cX5_thingsOn 30 = .ok (.iload_n 3, 1) := by decide +kernel
theorem dX5_thingsOn_31 : decode cX5_thingsOn 31 = .ok (.iload 5, 2) := by decide +kernel
theorem dX5_thingsOn_33 : decode cX5_thingsOn 33 = .ok (.ifCond .eq 20, 3) := by decide +kernel
theorem dX5_thingsOn_36 : decode cX5_thingsOn 36 = .ok (.iload_n 2, 1) := by decide +kernel
theorem dX5_thingsOn_37 : decode cX5_thingsOn 37 = .ok (.ifCond .eq 12, 3) := by decide +kernel
theorem dX5_thingsOn_40 : decode cX5_thingsOn 40 = .ok (.iload 5, 2) := by decide +kernel
theorem dX5_thingsOn_42 : decode cX5_thingsOn 42 = .ok (.invokestatic 45, 3) := by decide +kernel
theorem dX5_thingsOn_45 : decode cX5_thingsOn 45 = .ok (.iload_n 2, 1) := by decide +kernel
theorem dX5_thingsOn_46 : decode cX5_thingsOn 46 = .ok (.if_icmp .ne 7, 3) := by decide +kernel
theorem dX5_thingsOn_49 : decode cX5_thingsOn 49 = .ok (.iconst 1, 1) := by decide +kernel
theorem dX5_thingsOn_50 : decode cX5_thingsOn 50 = .ok (.goto 4, 3) := by decide +kernel
theorem dX5_thingsOn_53 : decode cX5_thingsOn 53 = .ok (.iconst 0, 1) := by decide +kernel
theorem dX5_thingsOn_54 : decode cX5_thingsOn 54 = .ok (.iadd, 1) := by decide +kernel
theorem dX5_thingsOn_55 : decode cX5_thingsOn 55 = .ok (.istore_n 3, 1) := by decide +kernel
theorem dX5_thingsOn_56 : decode cX5_thingsOn 56 = .ok (.iinc 4 1, 3) := by decide +kernel
theorem dX5_thingsOn_59 : decode cX5_thingsOn 59 = .ok (.goto (-54), 3) := by decide +kernel
theorem dX5_thingsOn_62 : decode cX5_thingsOn 62 = .ok (.iload_n 3, 1) := by decide +kernel
theorem dX5_thingsOn_63 : decode cX5_thingsOn 63 = .ok (.ireturn, 1) := by decide +kernel
theorem dX5_lowestEmpty_0 : decode cX5_lowestEmpty 0 = .ok (.bipush (-6), 2) := by decide +kernel
theorem dX5_lowestEmpty_2 : decode cX5_lowestEmpty 2 = .ok (.istore_n 2, 1) := by decide +kernel
theorem dX5_lowestEmpty_3 : decode cX5_lowestEmpty 3 = .ok (.bipush 39, 2) := by decide +kernel
theorem dX5_lowestEmpty_5 : decode cX5_lowestEmpty 5 = .ok (.istore_n 3, 1) := by decide +kernel
theorem dX5_lowestEmpty_6 : decode cX5_lowestEmpty 6 = .ok (.iload_n 3, 1) := by decide +kernel
theorem dX5_lowestEmpty_7 : decode cX5_lowestEmpty 7 = .ok (.ifCond .lt 33, 3) := by decide +kernel
theorem dX5_lowestEmpty_10 : decode cX5_lowestEmpty 10 = .ok (.aload_n 0, 1) := by decide +kernel
theorem dX5_lowestEmpty_11 : decode cX5_lowestEmpty 11 = .ok (.getfield 7, 3) := by decide +kernel
theorem dX5_lowestEmpty_14 : decode cX5_lowestEmpty 14 = .ok (.sipush 363, 3) := by decide +kernel
theorem dX5_lowestEmpty_17 : decode cX5_lowestEmpty 17 = .ok (.bipush 40, 2) := by decide +kernel
theorem dX5_lowestEmpty_19 : decode cX5_lowestEmpty 19 = .ok (.iload_n 1, 1) := by decide +kernel
theorem dX5_lowestEmpty_20 : decode cX5_lowestEmpty 20 = .ok (.imul, 1) := by decide +kernel
theorem dX5_lowestEmpty_21 : decode cX5_lowestEmpty 21 = .ok (.iadd, 1) := by decide +kernel
theorem dX5_lowestEmpty_22 : decode cX5_lowestEmpty 22 = .ok (.iload_n 3, 1) := by decide +kernel
theorem dX5_lowestEmpty_23 : decode cX5_lowestEmpty 23 = .ok (.iadd, 1) := by decide +kernel
theorem dX5_lowestEmpty_24 : decode cX5_lowestEmpty 24 = .ok (.iaload, 1) := by decide +kernel
theorem dX5_lowestEmpty_25 : decode cX5_lowestEmpty 25 = .ok (.ifCond .ne 7, 3) := by decide +kernel
theorem dX5_lowestEmpty_28 : decode cX5_lowestEmpty 28 = .ok (.iload_n 3, 1) := by decide +kernel
theorem dX5_lowestEmpty_29 : decode cX5_lowestEmpty 29 = .ok (.goto 4, 3) := by decide +kernel
theorem dX5_lowestEmpty_32 : decode cX5_lowestEmpty 32 = .ok (.iload_n 2, 1) := by decide +kernel
theorem dX5_lowestEmpty_33 : decode cX5_lowestEmpty 33 = .ok (.istore_n 2, 1) := by decide +kernel
theorem dX5_lowestEmpty_34 : decode cX5_lowestEmpty 34 = .ok (.iinc 3 (-1), 3) := by decide +kernel
theorem dX5_lowestEmpty_37 : decode cX5_lowestEmpty 37 = .ok (.goto (-31), 3) := by decide +kernel
theorem dX5_lowestEmpty_40 : decode cX5_lowestEmpty 40 = .ok (.iload_n 2, 1) := by decide +kernel
theorem dX5_lowestEmpty_41 : decode cX5_lowestEmpty 41 = .ok (.ireturn, 1) := by decide +kernel
theorem dX5_placed_0 : decode cX5_placed 0 = .ok (.iconst 0, 1) := by decide +kernel
theorem dX5_placed_1 : decode cX5_placed 1 = .ok (.istore_n 2, 1) := by decide +kernel
theorem dX5_placed_2 : decode cX5_placed 2 = .ok (.iload_n 2, 1) := by decide +kernel
theorem dX5_placed_3 : decode cX5_placed 3 = .ok (.bipush 10, 2) := by decide +kernel
theorem dX5_placed_5 : decode cX5_placed 5 = .ok (.if_icmp .ge 45, 3) := by decide +kernel
theorem dX5_placed_8 : decode cX5_placed 8 = .ok (.aload_n 0, 1) := by decide +kernel
theorem dX5_placed_9 : decode cX5_placed 9 = .ok (.iload_n 2, 1) := by decide +kernel
theorem dX5_placed_10 : decode cX5_placed 10 = .ok (.invokevirtual 55, 3) := by decide +kernel
theorem dX5_placed_13 : decode cX5_placed 13 = .ok (.iload_n 1, 1) := by decide +kernel
theorem dX5_placed_14 : decode cX5_placed 14 = .ok (.invokestatic 52, 3) := by decide +kernel
theorem dX5_placed_17 : decode cX5_placed 17 = .ok (.if_icmp .lt 27, 3) := by decide +kernel
theorem dX5_placed_20 : decode cX5_placed 20 = .ok (.bipush 40, 2) := by decide +kernel
theorem dX5_placed_22 : decode cX5_placed 22 = .ok (.iload_n 2, 1) := by decide +kernel
theorem dX5_placed_23 : decode cX5_placed 23 = .ok (.imul, 1) := by decide +kernel
theorem dX5_placed_24 : decode cX5_placed 24 = .ok (.aload_n 0, 1) := by decide +kernel
theorem dX5_placed_25 : decode cX5_placed 25 = .ok (.iload_n 2, 1) := by decide +kernel
theorem dX5_placed_26 : decode cX5_placed 26 = .ok (.invokevirtual 58, 3) := by decide +kernel
theorem dX5_placed_29 : decode cX5_placed 29 = .ok (.iadd, 1) := by decide +kernel
theorem dX5_placed_30 : decode cX5_placed 30 = .ok (.istore_n 3, 1) := by decide +kernel
theorem dX5_placed_31 : decode cX5_placed 31 = .ok (.aload_n 0, 1) := by decide +kernel
theorem dX5_placed_32 : decode cX5_placed 32 = .ok (.getfield 7, 3) := by decide +kernel
theorem dX5_placed_35 : decode cX5_placed 35 = .ok (.sipush 363, 3) := by decide +kernel
theorem dX5_placed_38 : decode cX5_placed 38 = .ok (.iload_n 3, 1) := by decide +kernel
theorem dX5_placed_39 : decode cX5_placed 39 = .ok (.iadd, 1) := by decide +kernel
theorem dX5_placed_40 : decode cX5_placed 40 = .ok (.iload_n 1, 1) := by decide +kernel
theorem dX5_placed_41 : decode cX5_placed 41 = .ok (.iastore, 1) := by decide +kernel
theorem dX5_placed_42 : decode cX5_placed 42 = .ok (.iload_n 3, 1) := by decide +kernel
theorem dX5_placed_43 : decode cX5_placed 43 = .ok (.ireturn, 1) := by decide +kernel
theorem dX5_placed_44 : decode cX5_placed 44 = .ok (.iinc 2 1, 3) := by decide +kernel
theorem dX5_placed_47 : decode cX5_placed 47 = .ok (.goto (-45), 3) := by decide +kernel
theorem dX5_placed_50 : decode cX5_placed 50 = .ok (.bipush (-6), 2) := by decide +kernel
theorem dX5_placed_52 : decode cX5_placed 52 = .ok (.ireturn, 1) := by decide +kernel
theorem dX5_part_0 : decode cX5_part 0 = .ok (.aload_n 0, 1) := by decide +kernel
theorem dX5_part_1 : decode cX5_part 1 = .ok (.getfield 7, 3) := by decide +kernel
theorem dX5_part_4 : decode cX5_part 4 = .ok (.iconst 3, 1) := by decide +kernel
theorem dX5_part_5 : decode cX5_part 5 = .ok (.bipush 12, 2) := by decide +kernel
theorem dX5_part_7 : decode cX5_part 7 = .ok (.iload_n 1, 1) := by decide +kernel
theorem dX5_part_8 : decode cX5_part 8 = .ok (.imul, 1) := by decide +kernel
theorem dX5_part_9 : decode cX5_part 9 = .ok (.iadd, 1) := by decide +kernel
theorem dX5_part_10 : decode cX5_part 10 = .ok (.iload_n 2, 1) := by decide +kernel
theorem dX5_part_11 : decode cX5_part 11 = .ok (.iadd, 1) := by decide +kernel
theorem dX5_part_12 : decode cX5_part 12 = .ok (.iaload, 1) := by decide +kernel
theorem dX5_part_13 : decode cX5_part 13 = .ok (.ireturn, 1) := by decide +kernel
theorem dX5_setPart_0 : decode cX5_setPart 0 = .ok (.aload_n 0, 1) := by decide +kernel
theorem dX5_setPart_1 : decode cX5_setPart 1 = .ok (.getfield 7, 3) := by decide +kernel
theorem dX5_setPart_4 : decode cX5_setPart 4 = .ok (.iconst 3, 1) := by decide +kernel
theorem dX5_setPart_5 : decode cX5_setPart 5 = .ok (.bipush 12, 2) := by decide +kernel
theorem dX5_setPart_7 : decode cX5_setPart 7 = .ok (.iload_n 1, 1) := by decide +kernel
theorem dX5_setPart_8 : decode cX5_setPart 8 = .ok (.imul, 1) := by decide +kernel
theorem dX5_setPart_9 : decode cX5_setPart 9 = .ok (.iadd, 1) := by decide +kernel
theorem dX5_setPart_10 : decode cX5_setPart 10 = .ok (.iload_n 2, 1) := by decide +kernel
theorem dX5_setPart_11 : decode cX5_setPart 11 = .ok (.iadd, 1) := by decide +kernel
theorem dX5_setPart_12 : decode cX5_setPart 12 = .ok (.iload_n 3, 1) := by decide +kernel
theorem dX5_setPart_13 : decode cX5_setPart 13 = .ok (.iastore, 1) := by decide +kernel
theorem dX5_setPart_14 : decode cX5_setPart 14 = .ok (.return_, 1) := by decide +kernel
theorem dX5_rowWith_0 : decode cX5_rowWith 0 = .ok (.bipush (-6), 2) := by decide +kernel
theorem dX5_rowWith_2 : decode cX5_rowWith 2 = .ok (.istore_n 2, 1) := by decide +kernel
theorem dX5_rowWith_3 : decode cX5_rowWith 3 = .ok (.iconst 0, 1) := by decide +kernel
theorem dX5_rowWith_4 : decode cX5_rowWith 4 = .ok (.istore_n 3, 1) := by decide +kernel
theorem dX5_rowWith_5 : decode cX5_rowWith 5 = .ok (.iload_n 3, 1) := by decide +kernel
theorem dX5_rowWith_6 : decode cX5_rowWith 6 = .ok (.bipush 30, 2) := by decide +kernel
theorem dX5_rowWith_8 : decode cX5_rowWith 8 = .ok (.if_icmp .ge 35, 3) := by decide +kernel
theorem dX5_rowWith_11 : decode cX5_rowWith 11 = .ok (.aload_n 0, 1) := by decide +kernel
theorem dX5_rowWith_12 : decode cX5_rowWith 12 = .ok (.iload_n 3, 1) := by decide +kernel
theorem dX5_rowWith_13 : decode cX5_rowWith 13 = .ok (.iconst 0, 1) := by decide +kernel
theorem dX5_rowWith_14 : decode cX5_rowWith 14 = .ok (.invokevirtual 61, 3) := by decide +kernel
theorem dX5_rowWith_17 : decode cX5_rowWith 17 = .ok (.iconst 1, 1) := by decide +kernel
theorem dX5_rowWith_18 : decode cX5_rowWith 18 = .ok (.if_icmp .ne 17, 3) := by decide +kernel
theorem dX5_rowWith_21 : decode cX5_rowWith 21 = .ok (.aload_n 0, 1) := by decide +kernel
theorem dX5_rowWith_22 : decode cX5_rowWith 22 = .ok (.iload_n 3, 1) := by decide +kernel
theorem dX5_rowWith_23 : decode cX5_rowWith 23 = .ok (.iconst 1, 1) := by decide +kernel
theorem dX5_rowWith_24 : decode cX5_rowWith 24 = .ok (.invokevirtual 61, 3) := by decide +kernel
theorem dX5_rowWith_27 : decode cX5_rowWith 27 = .ok (.iload_n 1, 1) := by decide +kernel
theorem dX5_rowWith_28 : decode cX5_rowWith 28 = .ok (.if_icmp .ne 7, 3) := by decide +kernel
theorem dX5_rowWith_31 : decode cX5_rowWith 31 = .ok (.iload_n 3, 1) := by decide +kernel
theorem dX5_rowWith_32 : decode cX5_rowWith 32 = .ok (.goto 4, 3) := by decide +kernel
theorem dX5_rowWith_35 : decode cX5_rowWith 35 = .ok (.iload_n 2, 1) := by decide +kernel
theorem dX5_rowWith_36 : decode cX5_rowWith 36 = .ok (.istore_n 2, 1) := by decide +kernel
theorem dX5_rowWith_37 : decode cX5_rowWith 37 = .ok (.iinc 3 1, 3) := by decide +kernel
theorem dX5_rowWith_40 : decode cX5_rowWith 40 = .ok (.goto (-35), 3) := by decide +kernel
theorem dX5_rowWith_43 : decode cX5_rowWith 43 = .ok (.iload_n 2, 1) := by decide +kernel
theorem dX5_rowWith_44 : decode cX5_rowWith 44 = .ok (.ireturn, 1) := by decide +kernel
theorem dX5_letterAt_0 : decode cX5_letterAt 0 = .ok (.aload_n 0, 1) := by decide +kernel
theorem dX5_letterAt_1 : decode cX5_letterAt 1 = .ok (.iload_n 1, 1) := by decide +kernel
theorem dX5_letterAt_2 : decode cX5_letterAt 2 = .ok (.iconst 5, 1) := by decide +kernel
theorem dX5_letterAt_3 : decode cX5_letterAt 3 = .ok (.iload_n 2, 1) := by decide +kernel
theorem dX5_letterAt_4 : decode cX5_letterAt 4 = .ok (.bipush 6, 2) := by decide +kernel
theorem dX5_letterAt_6 : decode cX5_letterAt 6 = .ok (.idiv, 1) := by decide +kernel
theorem dX5_letterAt_7 : decode cX5_letterAt 7 = .ok (.iadd, 1) := by decide +kernel
theorem dX5_letterAt_8 : decode cX5_letterAt 8 = .ok (.invokevirtual 61, 3) := by decide +kernel
theorem dX5_letterAt_11 : decode cX5_letterAt 11 = .ok (.iconst 5, 1) := by decide +kernel
theorem dX5_letterAt_12 : decode cX5_letterAt 12 = .ok (.iload_n 2, 1) := by decide +kernel
theorem dX5_letterAt_13 : decode cX5_letterAt 13 = .ok (.bipush 6, 2) := by decide +kernel
theorem dX5_letterAt_15 : decode cX5_letterAt 15 = .ok (.irem, 1) := by decide +kernel
theorem dX5_letterAt_16 : decode cX5_letterAt 16 = .ok (.imul, 1) := by decide +kernel
theorem dX5_letterAt_17 : decode cX5_letterAt 17 = .ok (.ishr, 1) := by decide +kernel
theorem dX5_letterAt_18 : decode cX5_letterAt 18 = .ok (.bipush 31, 2) := by decide +kernel
theorem dX5_letterAt_20 : decode cX5_letterAt 20 = .ok (.iand, 1) := by decide +kernel
theorem dX5_letterAt_21 : decode cX5_letterAt 21 = .ok (.ireturn, 1) := by decide +kernel
theorem dX5_hasMoved_0 : decode cX5_hasMoved 0 = .ok (.aload_n 0, 1) := by decide +kernel
theorem dX5_hasMoved_1 : decode cX5_hasMoved 1 = .ok (.iload_n 1, 1) := by decide +kernel
theorem dX5_hasMoved_2 : decode cX5_hasMoved 2 = .ok (.iconst 3, 1) := by decide +kernel
theorem dX5_hasMoved_3 : decode cX5_hasMoved 3 = .ok (.invokevirtual 61, 3) := by decide +kernel
theorem dX5_hasMoved_6 : decode cX5_hasMoved 6 = .ok (.aload_n 0, 1) := by decide +kernel
theorem dX5_hasMoved_7 : decode cX5_hasMoved 7 = .ok (.iload_n 1, 1) := by decide +kernel
theorem dX5_hasMoved_8 : decode cX5_hasMoved 8 = .ok (.iconst 4, 1) := by decide +kernel
theorem dX5_hasMoved_9 : decode cX5_hasMoved 9 = .ok (.invokevirtual 61, 3) := by decide +kernel
theorem dX5_hasMoved_12 : decode cX5_hasMoved 12 = .ok (.if_icmp .eq 7, 3) := by decide +kernel
theorem dX5_hasMoved_15 : decode cX5_hasMoved 15 = .ok (.iconst 1, 1) := by decide +kernel
theorem dX5_hasMoved_16 : decode cX5_hasMoved 16 = .ok (.goto 4, 3) := by decide +kernel
theorem dX5_hasMoved_19 : decode cX5_hasMoved 19 = .ok (.iconst 0, 1) := by decide +kernel
theorem dX5_hasMoved_20 : decode cX5_hasMoved 20 = .ok (.ireturn, 1) := by decide +kernel
theorem dX5_findPieces_0 : decode cX5_findPieces 0 = .ok (.aload_n 0, 1) := by decide +kernel
theorem dX5_findPieces_1 : decode cX5_findPieces 1 = .ok (.iconst 0, 1) := by decide +kernel
theorem dX5_findPieces_2 : decode cX5_findPieces 2 = .ok (.putfield 65, 3) := by decide +kernel
theorem dX5_findPieces_5 : decode cX5_findPieces 5 = .ok (.iconst 0, 1) := by decide +kernel
theorem dX5_findPieces_6 : decode cX5_findPieces 6 = .ok (.istore_n 2, 1) := by decide +kernel
theorem dX5_findPieces_7 : decode cX5_findPieces 7 = .ok (.iload_n 2, 1) := by decide +kernel
theorem dX5_findPieces_8 : decode cX5_findPieces 8 = .ok (.sipush 400, 3) := by decide +kernel
theorem dX5_findPieces_11 : decode cX5_findPieces 11 = .ok (.if_icmp .ge 56, 3) := by decide +kernel
theorem dX5_findPieces_14 : decode cX5_findPieces 14 = .ok (.aload_n 0, 1) := by decide +kernel
theorem dX5_findPieces_15 : decode cX5_findPieces 15 = .ok (.getfield 7, 3) := by decide +kernel
theorem dX5_findPieces_18 : decode cX5_findPieces 18 = .ok (.sipush 363, 3) := by decide +kernel
theorem dX5_findPieces_21 : decode cX5_findPieces 21 = .ok (.iload_n 2, 1) := by decide +kernel
theorem dX5_findPieces_22 : decode cX5_findPieces 22 = .ok (.iadd, 1) := by decide +kernel
theorem dX5_findPieces_23 : decode cX5_findPieces 23 = .ok (.iaload, 1) := by decide +kernel
theorem dX5_findPieces_24 : decode cX5_findPieces 24 = .ok (.istore_n 3, 1) := by decide +kernel
theorem dX5_findPieces_25 : decode cX5_findPieces 25 = .ok (.iload_n 3, 1) := by decide +kernel
theorem dX5_findPieces_26 : decode cX5_findPieces 26 = .ok (.invokestatic 45, 3) := by decide +kernel
theorem dX5_findPieces_29 : decode cX5_findPieces 29 = .ok (.iconst 2, 1) := by decide +kernel
theorem dX5_findPieces_30 : decode cX5_findPieces 30 = .ok (.if_icmp .ne 31, 3) := by decide +kernel
theorem dX5_findPieces_33 : decode cX5_findPieces 33 = .ok (.iload_n 3, 1) := by decide +kernel
theorem dX5_findPieces_34 : decode cX5_findPieces 34 = .ok (.invokestatic 68, 3) := by decide +kernel
theorem dX5_findPieces_37 : decode cX5_findPieces 37 = .ok (.iload_n 1, 1) := by decide +kernel
theorem dX5_findPieces_38 : decode cX5_findPieces 38 = .ok (.if_icmp .ne 23, 3) := by decide +kernel
theorem dX5_findPieces_41 : decode cX5_findPieces 41 = .ok (.aload_n 0, 1) := by decide +kernel
theorem dX5_findPieces_42 : decode cX5_findPieces 42 = .ok (.getfield 34, 3) := by decide +kernel
theorem dX5_findPieces_45 : decode cX5_findPieces 45 = .ok (.iload_n 3, 1) := by decide +kernel
theorem dX5_findPieces_46 : decode cX5_findPieces 46 = .ok (.invokestatic 71, 3) := by decide +kernel
theorem dX5_findPieces_49 : decode cX5_findPieces 49 = .ok (.iload_n 2, 1) := by decide +kernel
theorem dX5_findPieces_50 : decode cX5_findPieces 50 = .ok (.iastore, 1) := by decide +kernel
theorem dX5_findPieces_51 : decode cX5_findPieces 51 = .ok (.aload_n 0, 1) := by decide +kernel
theorem dX5_findPieces_52 : decode cX5_findPieces 52 = .ok (.dup, 1) := by decide +kernel
theorem dX5_findPieces_53 : decode cX5_findPieces 53 = .ok (.getfield 65, 3) := by decide +kernel
theorem dX5_findPieces_56 : decode cX5_findPieces 56 = .ok (.iconst 1, 1) := by decide +kernel
theorem dX5_findPieces_57 : decode cX5_findPieces 57 = .ok (.iadd, 1) := by decide +kernel
theorem dX5_findPieces_58 : decode cX5_findPieces 58 = .ok (.putfield 65, 3) := by decide +kernel
theorem dX5_findPieces_61 : decode cX5_findPieces 61 = .ok (.iinc 2 1, 3) := by decide +kernel
theorem dX5_findPieces_64 : decode cX5_findPieces 64 = .ok (.goto (-57), 3) := by decide +kernel
theorem dX5_findPieces_67 : decode cX5_findPieces 67 = .ok (.return_, 1) := by decide +kernel
theorem dX5_dropPieces_0 : decode cX5_dropPieces 0 = .ok (.aload_n 0, 1) := by decide +kernel
theorem dX5_dropPieces_1 : decode cX5_dropPieces 1 = .ok (.iload_n 1, 1) := by decide +kernel
theorem dX5_dropPieces_2 : decode cX5_dropPieces 2 = .ok (.invokevirtual 74, 3) := by decide +kernel
theorem dX5_dropPieces_5 : decode cX5_dropPieces 5 = .ok (.iconst 0, 1) := by decide +kernel
theorem dX5_dropPieces_6 : decode cX5_dropPieces 6 = .ok (.istore_n 2, 1) := by decide +kernel
theorem dX5_dropPieces_7 : decode cX5_dropPieces 7 = .ok (.iload_n 2, 1) := by decide +kernel
theorem dX5_dropPieces_8 : decode cX5_dropPieces 8 = .ok (.aload_n 0, 1) := by decide +kernel
theorem dX5_dropPieces_9 : decode cX5_dropPieces 9 = .ok (.getfield 65, 3) := by decide +kernel
theorem dX5_dropPieces_12 : decode cX5_dropPieces 12 = .ok (.if_icmp .ge 25, 3) := by decide +kernel
theorem dX5_dropPieces_15 : decode cX5_dropPieces 15 = .ok (.aload_n 0, 1) := by decide +kernel
theorem dX5_dropPieces_16 : decode cX5_dropPieces 16 = .ok (.getfield 7, 3) := by decide +kernel
theorem dX5_dropPieces_19 : decode cX5_dropPieces 19 = .ok (.sipush 363, 3) := by decide +kernel
theorem dX5_dropPieces_22 : decode cX5_dropPieces 22 = .ok (.aload_n 0, 1) := by decide +kernel
theorem dX5_dropPieces_23 : decode cX5_dropPieces 23 = .ok (.getfield 34, 3) := by decide +kernel
theorem dX5_dropPieces_26 : decode cX5_dropPieces 26 = .ok (.iload_n 2, 1) := by decide +kernel
theorem dX5_dropPieces_27 : decode cX5_dropPieces 27 = .ok (.iaload, 1) := by decide +kernel
theorem dX5_dropPieces_28 : decode cX5_dropPieces 28 = .ok (.iadd, 1) := by decide +kernel
theorem dX5_dropPieces_29 : decode cX5_dropPieces 29 = .ok (.iconst 0, 1) := by decide +kernel
theorem dX5_dropPieces_30 : decode cX5_dropPieces 30 = .ok (.iastore, 1) := by decide +kernel
theorem dX5_dropPieces_31 : decode cX5_dropPieces 31 = .ok (.iinc 2 1, 3) := by decide +kernel
theorem dX5_dropPieces_34 : decode cX5_dropPieces 34 = .ok (.goto (-27), 3) := by decide +kernel
theorem dX5_dropPieces_37 : decode cX5_dropPieces 37 = .ok (.return_, 1) := by decide +kernel
theorem dX5_headOf_0 : decode cX5_headOf 0 = .ok (.aload_n 0, 1) := by decide +kernel
theorem dX5_headOf_1 : decode cX5_headOf 1 = .ok (.getfield 7, 3) := by decide +kernel
theorem dX5_headOf_4 : decode cX5_headOf 4 = .ok (.sipush 363, 3) := by decide +kernel
theorem dX5_headOf_7 : decode cX5_headOf 7 = .ok (.aload_n 0, 1) := by decide +kernel
theorem dX5_headOf_8 : decode cX5_headOf 8 = .ok (.iload_n 1, 1) := by decide +kernel
theorem dX5_headOf_9 : decode cX5_headOf 9 = .ok (.iconst 4, 1) := by decide +kernel
theorem dX5_headOf_10 : decode cX5_headOf 10 = .ok (.invokevirtual 61, 3) := by decide +kernel
theorem dX5_headOf_13 : decode cX5_headOf 13 = .ok (.iadd, 1) := by decide +kernel
theorem dX5_headOf_14 : decode cX5_headOf 14 = .ok (.iaload, 1) := by decide +kernel
theorem dX5_headOf_15 : decode cX5_headOf 15 = .ok (.ireturn, 1) := by decide +kernel
theorem dX5_costOf_0 : decode cX5_costOf 0 = .ok (.aload_n 0, 1) := by decide +kernel
theorem dX5_costOf_1 : decode cX5_costOf 1 = .ok (.iload_n 1, 1) := by decide +kernel
theorem dX5_costOf_2 : decode cX5_costOf 2 = .ok (.invokevirtual 74, 3) := by decide +kernel
theorem dX5_costOf_5 : decode cX5_costOf 5 = .ok (.aload_n 0, 1) := by decide +kernel
theorem dX5_costOf_6 : decode cX5_costOf 6 = .ok (.iload_n 1, 1) := by decide +kernel
theorem dX5_costOf_7 : decode cX5_costOf 7 = .ok (.iconst 3, 1) := by decide +kernel
theorem dX5_costOf_8 : decode cX5_costOf 8 = .ok (.invokevirtual 61, 3) := by decide +kernel
theorem dX5_costOf_11 : decode cX5_costOf 11 = .ok (.bipush 40, 2) := by decide +kernel
theorem dX5_costOf_13 : decode cX5_costOf 13 = .ok (.idiv, 1) := by decide +kernel
theorem dX5_costOf_14 : decode cX5_costOf 14 = .ok (.istore_n 2, 1) := by decide +kernel
theorem dX5_costOf_15 : decode cX5_costOf 15 = .ok (.iconst 1, 1) := by decide +kernel
theorem dX5_costOf_16 : decode cX5_costOf 16 = .ok (.istore_n 3, 1) := by decide +kernel
theorem dX5_costOf_17 : decode cX5_costOf 17 = .ok (.iconst (-1), 1) := by decide +kernel
theorem dX5_costOf_18 : decode cX5_costOf 18 = .ok (.istore 4, 2) := by decide +kernel
theorem dX5_costOf_20 : decode cX5_costOf 20 = .ok (.iload 4, 2) := by decide +kernel
theorem dX5_costOf_22 : decode cX5_costOf 22 = .ok (.aload_n 0, 1) := by decide +kernel
theorem dX5_costOf_23 : decode cX5_costOf 23 = .ok (.getfield 65, 3) := by decide +kernel
theorem dX5_costOf_26 : decode cX5_costOf 26 = .ok (.if_icmp .ge 52, 3) := by decide +kernel
theorem dX5_costOf_29 : decode cX5_costOf 29 = .ok (.iload 4, 2) := by decide +kernel
theorem dX5_costOf_31 : decode cX5_costOf 31 = .ok (.ifCond .ge 12, 3) := by decide +kernel
theorem dX5_costOf_34 : decode cX5_costOf 34 = .ok (.aload_n 0, 1) := by decide +kernel
theorem dX5_costOf_35 : decode cX5_costOf 35 = .ok (.iload_n 1, 1) := by decide +kernel
theorem dX5_costOf_36 : decode cX5_costOf 36 = .ok (.iconst 4, 1) := by decide +kernel
theorem dX5_costOf_37 : decode cX5_costOf 37 = .ok (.invokevirtual 61, 3) := by decide +kernel
theorem dX5_costOf_40 : decode cX5_costOf 40 = .ok (.goto 10, 3) := by decide +kernel
theorem dX5_costOf_43 : decode cX5_costOf 43 = .ok (.aload_n 0, 1) := by decide +kernel
theorem dX5_costOf_44 : decode cX5_costOf 44 = .ok (.getfield 34, 3) := by decide +kernel
theorem dX5_costOf_47 : decode cX5_costOf 47 = .ok (.iload 4, 2) := by decide +kernel
theorem dX5_costOf_49 : decode cX5_costOf 49 = .ok (.iaload, 1) := by decide +kernel
theorem dX5_costOf_50 : decode cX5_costOf 50 = .ok (.bipush 40, 2) := by decide +kernel
theorem dX5_costOf_52 : decode cX5_costOf 52 = .ok (.idiv, 1) := by decide +kernel
theorem dX5_costOf_53 : decode cX5_costOf 53 = .ok (.istore 5, 2) := by decide +kernel
theorem dX5_costOf_55 : decode cX5_costOf 55 = .ok (.iload_n 3, 1) := by decide +kernel
theorem dX5_costOf_56 : decode cX5_costOf 56 = .ok (.iload 5, 2) := by decide +kernel
theorem dX5_costOf_58 : decode cX5_costOf 58 = .ok (.iload_n 2, 1) := by decide +kernel
theorem dX5_costOf_59 : decode cX5_costOf 59 = .ok (.if_icmp .ne 7, 3) := by decide +kernel
theorem dX5_costOf_62 : decode cX5_costOf 62 = .ok (.iconst 0, 1) := by decide +kernel
theorem dX5_costOf_63 : decode cX5_costOf 63 = .ok (.goto 4, 3) := by decide +kernel
theorem dX5_costOf_66 : decode cX5_costOf 66 = .ok (.iconst 1, 1) := by decide +kernel
theorem dX5_costOf_67 : decode cX5_costOf 67 = .ok (.iadd, 1) := by decide +kernel
theorem dX5_costOf_68 : decode cX5_costOf 68 = .ok (.istore_n 3, 1) := by decide +kernel
theorem dX5_costOf_69 : decode cX5_costOf 69 = .ok (.iload 5, 2) := by decide +kernel
theorem dX5_costOf_71 : decode cX5_costOf 71 = .ok (.istore_n 2, 1) := by decide +kernel
theorem dX5_costOf_72 : decode cX5_costOf 72 = .ok (.iinc 4 1, 3) := by decide +kernel
theorem dX5_costOf_75 : decode cX5_costOf 75 = .ok (.goto (-55), 3) := by decide +kernel
theorem dX5_costOf_78 : decode cX5_costOf 78 = .ok (.iload_n 3, 1) := by decide +kernel
theorem dX5_costOf_79 : decode cX5_costOf 79 = .ok (.ireturn, 1) := by decide +kernel
theorem dX5_cellsOfRow_0 : decode cX5_cellsOfRow 0 = .ok (.aload_n 0, 1) := by decide +kernel
theorem dX5_cellsOfRow_1 : decode cX5_cellsOfRow 1 = .ok (.iload_n 1, 1) := by decide +kernel
theorem dX5_cellsOfRow_2 : decode cX5_cellsOfRow 2 = .ok (.invokevirtual 74, 3) := by decide +kernel
theorem dX5_cellsOfRow_5 : decode cX5_cellsOfRow 5 = .ok (.aload_n 0, 1) := by decide +kernel
theorem dX5_cellsOfRow_6 : decode cX5_cellsOfRow 6 = .ok (.iload_n 1, 1) := by decide +kernel
theorem dX5_cellsOfRow_7 : decode cX5_cellsOfRow 7 = .ok (.invokevirtual 78, 3) := by decide +kernel
theorem dX5_cellsOfRow_10 : decode cX5_cellsOfRow 10 = .ok (.invokestatic 52, 3) := by decide +kernel
theorem dX5_cellsOfRow_13 : decode cX5_cellsOfRow 13 = .ok (.aload_n 0, 1) := by decide +kernel
theorem dX5_cellsOfRow_14 : decode cX5_cellsOfRow 14 = .ok (.iload_n 1, 1) := by decide +kernel
theorem dX5_cellsOfRow_15 : decode cX5_cellsOfRow 15 = .ok (.invokevirtual 81, 3) := by decide +kernel
theorem dX5_cellsOfRow_18 : decode cX5_cellsOfRow 18 = .ok (.ifCond .eq 7, 3) := by decide +kernel
theorem dX5_cellsOfRow_21 : decode cX5_cellsOfRow 21 = .ok (.iconst 1, 1) := by decide +kernel
theorem dX5_cellsOfRow_22 : decode cX5_cellsOfRow 22 = .ok (.goto 4, 3) := by decide +kernel
theorem dX5_cellsOfRow_25 : decode cX5_cellsOfRow 25 = .ok (.iconst 0, 1) := by decide +kernel
theorem dX5_cellsOfRow_26 : decode cX5_cellsOfRow 26 = .ok (.iadd, 1) := by decide +kernel
theorem dX5_cellsOfRow_27 : decode cX5_cellsOfRow 27 = .ok (.istore_n 2, 1) := by decide +kernel
theorem dX5_cellsOfRow_28 : decode cX5_cellsOfRow 28 = .ok (.iconst 0, 1) := by decide +kernel
theorem dX5_cellsOfRow_29 : decode cX5_cellsOfRow 29 = .ok (.istore_n 3, 1) := by decide +kernel
theorem dX5_cellsOfRow_30 : decode cX5_cellsOfRow 30 = .ok (.iload_n 3, 1) := by decide +kernel
theorem dX5_cellsOfRow_31 : decode cX5_cellsOfRow 31 = .ok (.aload_n 0, 1) := by decide +kernel
theorem dX5_cellsOfRow_32 : decode cX5_cellsOfRow 32 = .ok (.getfield 65, 3) := by decide +kernel
theorem dX5_cellsOfRow_35 : decode cX5_cellsOfRow 35 = .ok (.if_icmp .ge 30, 3) := by decide +kernel
theorem dX5_cellsOfRow_38 : decode cX5_cellsOfRow 38 = .ok (.iload_n 2, 1) := by decide +kernel
theorem dX5_cellsOfRow_39 : decode cX5_cellsOfRow 39 = .ok (.aload_n 0, 1) := by decide +kernel
theorem dX5_cellsOfRow_40 : decode cX5_cellsOfRow 40 = .ok (.getfield 7, 3) := by decide +kernel
theorem dX5_cellsOfRow_43 : decode cX5_cellsOfRow 43 = .ok (.sipush 363, 3) := by decide +kernel
theorem dX5_cellsOfRow_46 : decode cX5_cellsOfRow 46 = .ok (.aload_n 0, 1) := by decide +kernel
theorem dX5_cellsOfRow_47 : decode cX5_cellsOfRow 47 = .ok (.getfield 34, 3) := by decide +kernel
theorem dX5_cellsOfRow_50 : decode cX5_cellsOfRow 50 = .ok (.iload_n 3, 1) := by decide +kernel
theorem dX5_cellsOfRow_51 : decode cX5_cellsOfRow 51 = .ok (.iaload, 1) := by decide +kernel
theorem dX5_cellsOfRow_52 : decode cX5_cellsOfRow 52 = .ok (.iadd, 1) := by decide +kernel
theorem dX5_cellsOfRow_53 : decode cX5_cellsOfRow 53 = .ok (.iaload, 1) := by decide +kernel
theorem dX5_cellsOfRow_54 : decode cX5_cellsOfRow 54 = .ok (.invokestatic 52, 3) := by decide +kernel
theorem dX5_cellsOfRow_57 : decode cX5_cellsOfRow 57 = .ok (.iadd, 1) := by decide +kernel
theorem dX5_cellsOfRow_58 : decode cX5_cellsOfRow 58 = .ok (.istore_n 2, 1) := by decide +kernel
theorem dX5_cellsOfRow_59 : decode cX5_cellsOfRow 59 = .ok (.iinc 3 1, 3) := by decide +kernel
theorem dX5_cellsOfRow_62 : decode cX5_cellsOfRow 62 = .ok (.goto (-32), 3) := by decide +kernel
theorem dX5_cellsOfRow_65 : decode cX5_cellsOfRow 65 = .ok (.iload_n 2, 1) := by decide +kernel
theorem dX5_cellsOfRow_66 : decode cX5_cellsOfRow 66 = .ok (.ireturn, 1) := by decide +kernel
theorem dX5_takeText_0 : decode cX5_takeText 0 = .ok (.aload_n 0, 1) := by decide +kernel
theorem dX5_takeText_1 : decode cX5_takeText 1 = .ok (.aload_n 0, 1) := by decide +kernel
theorem dX5_takeText_2 : decode cX5_takeText 2 = .ok (.iload_n 1, 1) := by decide +kernel
theorem dX5_takeText_3 : decode cX5_takeText 3 = .ok (.iconst 2, 1) := by decide +kernel
theorem dX5_takeText_4 : decode cX5_takeText 4 = .ok (.invokevirtual 61, 3) := by decide +kernel
theorem dX5_takeText_7 : decode cX5_takeText 7 = .ok (.putfield 85, 3) := by decide +kernel
theorem dX5_takeText_10 : decode cX5_takeText 10 = .ok (.iconst 0, 1) := by decide +kernel
theorem dX5_takeText_11 : decode cX5_takeText 11 = .ok (.istore_n 2, 1) := by decide +kernel
theorem dX5_takeText_12 : decode cX5_takeText 12 = .ok (.iload_n 2, 1) := by decide +kernel
theorem dX5_takeText_13 : decode cX5_takeText 13 = .ok (.aload_n 0, 1) := by decide +kernel
theorem dX5_takeText_14 : decode cX5_takeText 14 = .ok (.getfield 85, 3) := by decide +kernel
theorem dX5_takeText_17 : decode cX5_takeText 17 = .ok (.if_icmp .ge 21, 3) := by decide +kernel
theorem dX5_takeText_20 : decode cX5_takeText 20 = .ok (.aload_n 0, 1) := by decide +kernel
theorem dX5_takeText_21 : decode cX5_takeText 21 = .ok (.getfield 31, 3) := by decide +kernel
theorem dX5_takeText_24 : decode cX5_takeText 24 = .ok (.iload_n 2, 1) := by decide +kernel
theorem dX5_takeText_25 : decode cX5_takeText 25 = .ok (.aload_n 0, 1) := by decide +kernel
theorem dX5_takeText_26 : decode cX5_takeText 26 = .ok (.iload_n 1, 1) := by decide +kernel
theorem dX5_takeText_27 : decode cX5_takeText 27 = .ok (.iload_n 2, 1) := by decide +kernel
theorem dX5_takeText_28 : decode cX5_takeText 28 = .ok (.invokevirtual 88, 3) := by decide +kernel
theorem dX5_takeText_31 : decode cX5_takeText 31 = .ok (.iastore, 1) := by decide +kernel
theorem dX5_takeText_32 : decode cX5_takeText 32 = .ok (.iinc 2 1, 3) := by decide +kernel
theorem dX5_takeText_35 : decode cX5_takeText 35 = .ok (.goto (-23), 3) := by decide +kernel
theorem dX5_takeText_38 : decode cX5_takeText 38 = .ok (.return_, 1) := by decide +kernel
theorem dX5_headLetters_0 : decode cX5_headLetters 0 = .ok (.aload_n 0, 1) := by decide +kernel
theorem dX5_headLetters_1 : decode cX5_headLetters 1 = .ok (.getfield 85, 3) := by decide +kernel
theorem dX5_headLetters_4 : decode cX5_headLetters 4 = .ok (.aload_n 0, 1) := by decide +kernel
theorem dX5_headLetters_5 : decode cX5_headLetters 5 = .ok (.getfield 7, 3) := by decide +kernel
theorem dX5_headLetters_8 : decode cX5_headLetters 8 = .ok (.iconst 0, 1) := by decide +kernel
theorem dX5_headLetters_9 : decode cX5_headLetters 9 = .ok (.iaload, 1) := by decide +kernel
theorem dX5_headLetters_10 : decode cX5_headLetters 10 = .ok (.if_icmp .ge 10, 3) := by decide +kernel
theorem dX5_headLetters_13 : decode cX5_headLetters 13 = .ok (.aload_n 0, 1) := by decide +kernel
theorem dX5_headLetters_14 : decode cX5_headLetters 14 = .ok (.getfield 85, 3) := by decide +kernel
theorem dX5_headLetters_17 : decode cX5_headLetters 17 = .ok (.goto 9, 3) := by decide +kernel
theorem dX5_headLetters_20 : decode cX5_headLetters 20 = .ok (.aload_n 0, 1) := by decide +kernel
theorem dX5_headLetters_21 : decode cX5_headLetters 21 = .ok (.getfield 7, 3) := by decide +kernel
theorem dX5_headLetters_24 : decode cX5_headLetters 24 = .ok (.iconst 0, 1) := by decide +kernel
theorem dX5_headLetters_25 : decode cX5_headLetters 25 = .ok (.iaload, 1) := by decide +kernel
theorem dX5_headLetters_26 : decode cX5_headLetters 26 = .ok (.ireturn, 1) := by decide +kernel
theorem dX5_setText_0 : decode cX5_setText 0 = .ok (.aload_n 0, 1) := by decide +kernel
theorem dX5_setText_1 : decode cX5_setText 1 = .ok (.iload_n 1, 1) := by decide +kernel
theorem dX5_setText_2 : decode cX5_setText 2 = .ok (.iconst 2, 1) := by decide +kernel
theorem dX5_setText_3 : decode cX5_setText 3 = .ok (.aload_n 0, 1) := by decide +kernel
theorem dX5_setText_4 : decode cX5_setText 4 = .ok (.getfield 85, 3) := by decide +kernel
theorem dX5_setText_7 : decode cX5_setText 7 = .ok (.invokevirtual 91, 3) := by decide +kernel
theorem dX5_setText_10 : decode cX5_setText 10 = .ok (.iconst 0, 1) := by decide +kernel
theorem dX5_setText_11 : decode cX5_setText 11 = .ok (.istore_n 2, 1) := by decide +kernel
theorem dX5_setText_12 : decode cX5_setText 12 = .ok (.iload_n 2, 1) := by decide +kernel
theorem dX5_setText_13 : decode cX5_setText 13 = .ok (.bipush 7, 2) := by decide +kernel
theorem dX5_setText_15 : decode cX5_setText 15 = .ok (.if_icmp .ge 18, 3) := by decide +kernel
theorem dX5_setText_18 : decode cX5_setText 18 = .ok (.aload_n 0, 1) := by decide +kernel
theorem dX5_setText_19 : decode cX5_setText 19 = .ok (.iload_n 1, 1) := by decide +kernel
theorem dX5_setText_20 : decode cX5_setText 20 = .ok (.iconst 5, 1) := by decide +kernel
theorem dX5_setText_21 : decode cX5_setText 21 = .ok (.iload_n 2, 1) := by decide +kernel
theorem dX5_setText_22 : decode cX5_setText 22 = .ok (.iadd, 1) := by decide +kernel
theorem dX5_setText_23 : decode cX5_setText 23 = .ok (.iconst 0, 1) := by decide +kernel
theorem dX5_setText_24 : decode cX5_setText 24 = .ok (.invokevirtual 91, 3) := by decide +kernel
theorem dX5_setText_27 : decode cX5_setText 27 = .ok (.iinc 2 1, 3) := by decide +kernel
theorem dX5_setText_30 : decode cX5_setText 30 = .ok (.goto (-18), 3) := by decide +kernel
theorem dX5_setText_33 : decode cX5_setText 33 = .ok (.iconst 0, 1) := by decide +kernel
theorem dX5_setText_34 : decode cX5_setText 34 = .ok (.istore_n 2, 1) := by decide +kernel
theorem dX5_setText_35 : decode cX5_setText 35 = .ok (.iload_n 2, 1) := by decide +kernel
theorem dX5_setText_36 : decode cX5_setText 36 = .ok (.aload_n 0, 1) := by decide +kernel
theorem dX5_setText_37 : decode cX5_setText 37 = .ok (.getfield 85, 3) := by decide +kernel
theorem dX5_setText_40 : decode cX5_setText 40 = .ok (.if_icmp .ge 45, 3) := by decide +kernel
theorem dX5_setText_43 : decode cX5_setText 43 = .ok (.aload_n 0, 1) := by decide +kernel
theorem dX5_setText_44 : decode cX5_setText 44 = .ok (.iload_n 1, 1) := by decide +kernel
theorem dX5_setText_45 : decode cX5_setText 45 = .ok (.iconst 5, 1) := by decide +kernel
theorem dX5_setText_46 : decode cX5_setText 46 = .ok (.iload_n 2, 1) := by decide +kernel
theorem dX5_setText_47 : decode cX5_setText 47 = .ok (.bipush 6, 2) := by decide +kernel
theorem dX5_setText_49 : decode cX5_setText 49 = .ok (.idiv, 1) := by decide +kernel
theorem dX5_setText_50 : decode cX5_setText 50 = .ok (.iadd, 1) := by decide +kernel
theorem dX5_setText_51 : decode cX5_setText 51 = .ok (.aload_n 0, 1) := by decide +kernel
theorem dX5_setText_52 : decode cX5_setText 52 = .ok (.iload_n 1, 1) := by decide +kernel
theorem dX5_setText_53 : decode cX5_setText 53 = .ok (.iconst 5, 1) := by decide +kernel
theorem dX5_setText_54 : decode cX5_setText 54 = .ok (.iload_n 2, 1) := by decide +kernel
theorem dX5_setText_55 : decode cX5_setText 55 = .ok (.bipush 6, 2) := by decide +kernel
theorem dX5_setText_57 : decode cX5_setText 57 = .ok (.idiv, 1) := by decide +kernel
theorem dX5_setText_58 : decode cX5_setText 58 = .ok (.iadd, 1) := by decide +kernel
theorem dX5_setText_59 : decode cX5_setText 59 = .ok (.invokevirtual 61, 3) := by decide +kernel
theorem dX5_setText_62 : decode cX5_setText 62 = .ok (.aload_n 0, 1) := by decide +kernel
theorem dX5_setText_63 : decode cX5_setText 63 = .ok (.getfield 31, 3) := by decide +kernel
theorem dX5_setText_66 : decode cX5_setText 66 = .ok (.iload_n 2, 1) := by decide +kernel
theorem dX5_setText_67 : decode cX5_setText 67 = .ok (.iaload, 1) := by decide +kernel
theorem dX5_setText_68 : decode cX5_setText 68 = .ok (.iconst 5, 1) := by decide +kernel
theorem dX5_setText_69 : decode cX5_setText 69 = .ok (.iload_n 2, 1) := by decide +kernel
theorem dX5_setText_70 : decode cX5_setText 70 = .ok (.bipush 6, 2) := by decide +kernel
theorem dX5_setText_72 : decode cX5_setText 72 = .ok (.irem, 1) := by decide +kernel
theorem dX5_setText_73 : decode cX5_setText 73 = .ok (.imul, 1) := by decide +kernel
theorem dX5_setText_74 : decode cX5_setText 74 = .ok (.ishl, 1) := by decide +kernel
theorem dX5_setText_75 : decode cX5_setText 75 = .ok (.ior, 1) := by decide +kernel
theorem dX5_setText_76 : decode cX5_setText 76 = .ok (.invokevirtual 91, 3) := by decide +kernel
theorem dX5_setText_79 : decode cX5_setText 79 = .ok (.iinc 2 1, 3) := by decide +kernel
theorem dX5_setText_82 : decode cX5_setText 82 = .ok (.goto (-47), 3) := by decide +kernel
theorem dX5_setText_85 : decode cX5_setText 85 = .ok (.return_, 1) := by decide +kernel
theorem dX5_putPieces_0 : decode cX5_putPieces 0 = .ok (.aload_n 0, 1) := by decide +kernel
theorem dX5_putPieces_1 : decode cX5_putPieces 1 = .ok (.invokevirtual 95, 3) := by decide +kernel
theorem dX5_putPieces_4 : decode cX5_putPieces 4 = .ok (.istore_n 2, 1) := by decide +kernel
theorem dX5_putPieces_5 : decode cX5_putPieces 5 = .ok (.iconst 0, 1) := by decide +kernel
theorem dX5_putPieces_6 : decode cX5_putPieces 6 = .ok (.istore_n 3, 1) := by decide +kernel
theorem dX5_putPieces_7 : decode cX5_putPieces 7 = .ok (.iload_n 2, 1) := by decide +kernel
theorem dX5_putPieces_8 : decode cX5_putPieces 8 = .ok (.aload_n 0, 1) := by decide +kernel
theorem dX5_putPieces_9 : decode cX5_putPieces 9 = .ok (.getfield 85, 3) := by decide +kernel
theorem dX5_putPieces_12 : decode cX5_putPieces 12 = .ok (.if_icmp .ge 65, 3) := by decide +kernel
theorem dX5_putPieces_15 : decode cX5_putPieces 15 = .ok (.aload_n 0, 1) := by decide +kernel
theorem dX5_putPieces_16 : decode cX5_putPieces 16 = .ok (.getfield 85, 3) := by decide +kernel
theorem dX5_putPieces_19 : decode cX5_putPieces 19 = .ok (.iload_n 2, 1) := by decide +kernel
theorem dX5_putPieces_20 : decode cX5_putPieces 20 = .ok (.isub, 1) := by decide +kernel
theorem dX5_putPieces_21 : decode cX5_putPieces 21 = .ok (.aload_n 0, 1) := by decide +kernel
theorem dX5_putPieces_22 : decode cX5_putPieces 22 = .ok (.getfield 7, 3) := by decide +kernel
theorem dX5_putPieces_25 : decode cX5_putPieces 25 = .ok (.iconst 1, 1) := by decide +kernel
theorem dX5_putPieces_26 : decode cX5_putPieces 26 = .ok (.iaload, 1) := by decide +kernel
theorem dX5_putPieces_27 : decode cX5_putPieces 27 = .ok (.if_icmp .ge 12, 3) := by decide +kernel
theorem dX5_putPieces_30 : decode cX5_putPieces 30 = .ok (.aload_n 0, 1) := by decide +kernel
theorem dX5_putPieces_31 : decode cX5_putPieces 31 = .ok (.getfield 85, 3) := by decide +kernel
theorem dX5_putPieces_34 : decode cX5_putPieces 34 = .ok (.iload_n 2, 1) := by decide +kernel
theorem dX5_putPieces_35 : decode cX5_putPieces 35 = .ok (.isub, 1) := by decide +kernel
theorem dX5_putPieces_36 : decode cX5_putPieces 36 = .ok (.goto 9, 3) := by decide +kernel
theorem dX5_putPieces_39 : decode cX5_putPieces 39 = .ok (.aload_n 0, 1) := by decide +kernel
theorem dX5_putPieces_40 : decode cX5_putPieces 40 = .ok (.getfield 7, 3) := by decide +kernel
theorem dX5_putPieces_43 : decode cX5_putPieces 43 = .ok (.iconst 1, 1) := by decide +kernel
theorem dX5_putPieces_44 : decode cX5_putPieces 44 = .ok (.iaload, 1) := by decide +kernel
theorem dX5_putPieces_45 : decode cX5_putPieces 45 = .ok (.istore 4, 2) := by decide +kernel
theorem dX5_putPieces_47 : decode cX5_putPieces 47 = .ok (.aload_n 0, 1) := by decide +kernel
theorem dX5_putPieces_48 : decode cX5_putPieces 48 = .ok (.iconst 2, 1) := by decide +kernel
theorem dX5_putPieces_49 : decode cX5_putPieces 49 = .ok (.iload_n 1, 1) := by decide +kernel
theorem dX5_putPieces_50 : decode cX5_putPieces 50 = .ok (.iload_n 3, 1) := by decide +kernel
theorem dX5_putPieces_51 : decode cX5_putPieces 51 = .ok (.iload 4, 2) := by decide +kernel
theorem dX5_putPieces_53 : decode cX5_putPieces 53 = .ok (.invokestatic 99, 3) := by decide +kernel
theorem dX5_putPieces_56 : decode cX5_putPieces 56 = .ok (.invokevirtual 103, 3) := by decide +kernel
theorem dX5_putPieces_59 : decode cX5_putPieces 59 = .ok (.bipush (-6), 2) := by decide +kernel
theorem dX5_putPieces_61 : decode cX5_putPieces 61 = .ok (.if_icmp .ne 5, 3) := by decide +kernel
theorem dX5_putPieces_64 : decode cX5_putPieces 64 = .ok (.iconst 0, 1) := by decide +kernel
theorem dX5_putPieces_65 : decode cX5_putPieces 65 = .ok (.ireturn, 1) := by decide +kernel
theorem dX5_putPieces_66 : decode cX5_putPieces 66 = .ok (.iload_n 2, 1) := by decide +kernel
theorem dX5_putPieces_67 : decode cX5_putPieces 67 = .ok (.iload 4, 2) := by decide +kernel
theorem dX5_putPieces_69 : decode cX5_putPieces 69 = .ok (.iadd, 1) := by decide +kernel
theorem dX5_putPieces_70 : decode cX5_putPieces 70 = .ok (.istore_n 2, 1) := by decide +kernel
theorem dX5_putPieces_71 : decode cX5_putPieces 71 = .ok (.iinc 3 1, 3) := by decide +kernel
theorem dX5_putPieces_74 : decode cX5_putPieces 74 = .ok (.goto (-67), 3) := by decide +kernel
theorem dX5_putPieces_77 : decode cX5_putPieces 77 = .ok (.iconst 1, 1) := by decide +kernel
theorem dX5_putPieces_78 : decode cX5_putPieces 78 = .ok (.ireturn, 1) := by decide +kernel
theorem dX5_writeNew_0 : decode cX5_writeNew 0 = .ok (.aload_n 0, 1) := by decide +kernel
theorem dX5_writeNew_1 : decode cX5_writeNew 1 = .ok (.iconst 1, 1) := by decide +kernel
theorem dX5_writeNew_2 : decode cX5_writeNew 2 = .ok (.iload_n 1, 1) := by decide +kernel
theorem dX5_writeNew_3 : decode cX5_writeNew 3 = .ok (.iconst 0, 1) := by decide +kernel
theorem dX5_writeNew_4 : decode cX5_writeNew 4 = .ok (.aload_n 0, 1) := by decide +kernel
theorem dX5_writeNew_5 : decode cX5_writeNew 5 = .ok (.invokevirtual 95, 3) := by decide +kernel
theorem dX5_writeNew_8 : decode cX5_writeNew 8 = .ok (.invokestatic 99, 3) := by decide +kernel
theorem dX5_writeNew_11 : decode cX5_writeNew 11 = .ok (.invokevirtual 103, 3) := by decide +kernel
theorem dX5_writeNew_14 : decode cX5_writeNew 14 = .ok (.istore_n 2, 1) := by decide +kernel
theorem dX5_writeNew_15 : decode cX5_writeNew 15 = .ok (.aload_n 0, 1) := by decide +kernel
theorem dX5_writeNew_16 : decode cX5_writeNew 16 = .ok (.iload_n 1, 1) := by decide +kernel
theorem dX5_writeNew_17 : decode cX5_writeNew 17 = .ok (.iconst 3, 1) := by decide +kernel
theorem dX5_writeNew_18 : decode cX5_writeNew 18 = .ok (.iload_n 2, 1) := by decide +kernel
theorem dX5_writeNew_19 : decode cX5_writeNew 19 = .ok (.invokevirtual 91, 3) := by decide +kernel
theorem dX5_writeNew_22 : decode cX5_writeNew 22 = .ok (.aload_n 0, 1) := by decide +kernel
theorem dX5_writeNew_23 : decode cX5_writeNew 23 = .ok (.iload_n 1, 1) := by decide +kernel
theorem dX5_writeNew_24 : decode cX5_writeNew 24 = .ok (.iconst 4, 1) := by decide +kernel
theorem dX5_writeNew_25 : decode cX5_writeNew 25 = .ok (.iload_n 2, 1) := by decide +kernel
theorem dX5_writeNew_26 : decode cX5_writeNew 26 = .ok (.invokevirtual 91, 3) := by decide +kernel
theorem dX5_writeNew_29 : decode cX5_writeNew 29 = .ok (.aload_n 0, 1) := by decide +kernel
theorem dX5_writeNew_30 : decode cX5_writeNew 30 = .ok (.iload_n 1, 1) := by decide +kernel
theorem dX5_writeNew_31 : decode cX5_writeNew 31 = .ok (.invokevirtual 106, 3) := by decide +kernel
theorem dX5_writeNew_34 : decode cX5_writeNew 34 = .ok (.iload_n 2, 1) := by decide +kernel
theorem dX5_writeNew_35 : decode cX5_writeNew 35 = .ok (.bipush (-6), 2) := by decide +kernel
theorem dX5_writeNew_37 : decode cX5_writeNew 37 = .ok (.if_icmp .eq 15, 3) := by decide +kernel
theorem dX5_writeNew_40 : decode cX5_writeNew 40 = .ok (.aload_n 0, 1) := by decide +kernel
theorem dX5_writeNew_41 : decode cX5_writeNew 41 = .ok (.iload_n 1, 1) := by decide +kernel
theorem dX5_writeNew_42 : decode cX5_writeNew 42 = .ok (.invokevirtual 109, 3) := by decide +kernel
theorem dX5_writeNew_45 : decode cX5_writeNew 45 = .ok (.ifCond .eq 7, 3) := by decide +kernel
theorem dX5_writeNew_48 : decode cX5_writeNew 48 = .ok (.iconst 1, 1) := by decide +kernel
theorem dX5_writeNew_49 : decode cX5_writeNew 49 = .ok (.goto 4, 3) := by decide +kernel
theorem dX5_writeNew_52 : decode cX5_writeNew 52 = .ok (.iconst 0, 1) := by decide +kernel
theorem dX5_writeNew_53 : decode cX5_writeNew 53 = .ok (.ireturn, 1) := by decide +kernel
theorem dX5_placeForHead_0 : decode cX5_placeForHead 0 = .ok (.aload_n 0, 1) := by decide +kernel
theorem dX5_placeForHead_1 : decode cX5_placeForHead 1 = .ok (.iload_n 1, 1) := by decide +kernel
theorem dX5_placeForHead_2 : decode cX5_placeForHead 2 = .ok (.iconst 4, 1) := by decide +kernel
theorem dX5_placeForHead_3 : decode cX5_placeForHead 3 = .ok (.invokevirtual 61, 3) := by decide +kernel
theorem dX5_placeForHead_6 : decode cX5_placeForHead 6 = .ok (.istore_n 3, 1) := by decide +kernel
theorem dX5_placeForHead_7 : decode cX5_placeForHead 7 = .ok (.aload_n 0, 1) := by decide +kernel
theorem dX5_placeForHead_8 : decode cX5_placeForHead 8 = .ok (.iload_n 1, 1) := by decide +kernel
theorem dX5_placeForHead_9 : decode cX5_placeForHead 9 = .ok (.iconst 3, 1) := by decide +kernel
theorem dX5_placeForHead_10 : decode cX5_placeForHead 10 = .ok (.invokevirtual 61, 3) := by decide +kernel
theorem dX5_placeForHead_13 : decode cX5_placeForHead 13 = .ok (.istore 4, 2) := by decide +kernel
theorem dX5_placeForHead_15 : decode cX5_placeForHead 15 = .ok (.aload_n 0, 1) := by decide +kernel
theorem dX5_placeForHead_16 : decode cX5_placeForHead 16 = .ok (.iload_n 3, 1) := by decide +kernel
theorem dX5_placeForHead_17 : decode cX5_placeForHead 17 = .ok (.bipush 40, 2) := by decide +kernel
theorem dX5_placeForHead_19 : decode cX5_placeForHead 19 = .ok (.idiv, 1) := by decide +kernel
theorem dX5_placeForHead_20 : decode cX5_placeForHead 20 = .ok (.invokevirtual 55, 3) := by decide +kernel
theorem dX5_placeForHead_23 : decode cX5_placeForHead 23 = .ok (.iload_n 2, 1) := by decide +kernel
theorem dX5_placeForHead_24 : decode cX5_placeForHead 24 = .ok (.invokestatic 52, 3) := by decide +kernel
theorem dX5_placeForHead_27 : decode cX5_placeForHead 27 = .ok (.if_icmp .lt 5, 3) := by decide +kernel
theorem dX5_placeForHead_30 : decode cX5_placeForHead 30 = .ok (.iload_n 3, 1) := by decide +kernel
theorem dX5_placeForHead_31 : decode cX5_placeForHead 31 = .ok (.ireturn, 1) := by decide +kernel
theorem dX5_placeForHead_32 : decode cX5_placeForHead 32 = .ok (.iload_n 3, 1) := by decide +kernel
theorem dX5_placeForHead_33 : decode cX5_placeForHead 33 = .ok (.iload 4, 2) := by decide +kernel
theorem dX5_placeForHead_35 : decode cX5_placeForHead 35 = .ok (.if_icmp .ne 24, 3) := by decide +kernel
theorem dX5_placeForHead_38 : decode cX5_placeForHead 38 = .ok (.aload_n 0, 1) := by decide +kernel
theorem dX5_placeForHead_39 : decode cX5_placeForHead 39 = .ok (.getfield 7, 3) := by decide +kernel
theorem dX5_placeForHead_42 : decode cX5_placeForHead 42 = .ok (.sipush 363, 3) := by decide +kernel
theorem dX5_placeForHead_45 : decode cX5_placeForHead 45 = .ok (.iload 4, 2) := by decide +kernel
theorem dX5_placeForHead_47 : decode cX5_placeForHead 47 = .ok (.iadd, 1) := by decide +kernel
theorem dX5_placeForHead_48 : decode cX5_placeForHead 48 = .ok (.iconst 3, 1) := by decide +kernel
theorem dX5_placeForHead_49 : decode cX5_placeForHead 49 = .ok (.iload_n 1, 1) := by decide +kernel
theorem dX5_placeForHead_50 : decode cX5_placeForHead 50 = .ok (.iconst 0, 1) := by decide +kernel
theorem dX5_placeForHead_51 : decode cX5_placeForHead 51 = .ok (.iconst 0, 1) := by decide +kernel
theorem dX5_placeForHead_52 : decode cX5_placeForHead 52 = .ok (.invokestatic 99, 3) := by decide +kernel
theorem dX5_placeForHead_55 : decode cX5_placeForHead 55 = .ok (.iastore, 1) := by decide +kernel
theorem dX5_placeForHead_56 : decode cX5_placeForHead 56 = .ok (.goto 24, 3) := by decide +kernel
theorem dX5_placeForHead_59 : decode cX5_placeForHead 59 = .ok (.aload_n 0, 1) := by decide +kernel
theorem dX5_placeForHead_60 : decode cX5_placeForHead 60 = .ok (.iload 4, 2) := by decide +kernel
theorem dX5_placeForHead_62 : decode cX5_placeForHead 62 = .ok (.bipush 40, 2) := by decide +kernel
theorem dX5_placeForHead_64 : decode cX5_placeForHead 64 = .ok (.idiv, 1) := by decide +kernel
theorem dX5_placeForHead_65 : decode cX5_placeForHead 65 = .ok (.invokevirtual 55, 3) := by decide +kernel
theorem dX5_placeForHead_68 : decode cX5_placeForHead 68 = .ok (.iconst 1, 1) := by decide +kernel
theorem dX5_placeForHead_69 : decode cX5_placeForHead 69 = .ok (.iadd, 1) := by decide +kernel
theorem dX5_placeForHead_70 : decode cX5_placeForHead 70 = .ok (.iload_n 2, 1) := by decide +kernel
theorem dX5_placeForHead_71 : decode cX5_placeForHead 71 = .ok (.invokestatic 52, 3) := by decide +kernel
theorem dX5_placeForHead_74 : decode cX5_placeForHead 74 = .ok (.if_icmp .lt 6, 3) := by decide +kernel
theorem dX5_placeForHead_77 : decode cX5_placeForHead 77 = .ok (.iload 4, 2) := by decide +kernel
theorem dX5_placeForHead_79 : decode cX5_placeForHead 79 = .ok (.ireturn, 1) := by decide +kernel
theorem dX5_placeForHead_80 : decode cX5_placeForHead 80 = .ok (.aload_n 0, 1) := by decide +kernel
theorem dX5_placeForHead_81 : decode cX5_placeForHead 81 = .ok (.iload_n 2, 1) := by decide +kernel
theorem dX5_placeForHead_82 : decode cX5_placeForHead 82 = .ok (.invokevirtual 103, 3) := by decide +kernel
theorem dX5_placeForHead_85 : decode cX5_placeForHead 85 = .ok (.ireturn, 1) := by decide +kernel
theorem dX5_writeAgain_0 : decode cX5_writeAgain 0 = .ok (.iconst 1, 1) := by decide +kernel
theorem dX5_writeAgain_1 : decode cX5_writeAgain 1 = .ok (.iload_n 1, 1) := by decide +kernel
theorem dX5_writeAgain_2 : decode cX5_writeAgain 2 = .ok (.iconst 0, 1) := by decide +kernel
theorem dX5_writeAgain_3 : decode cX5_writeAgain 3 = .ok (.aload_n 0, 1) := by decide +kernel
theorem dX5_writeAgain_4 : decode cX5_writeAgain 4 = .ok (.invokevirtual 95, 3) := by decide +kernel
theorem dX5_writeAgain_7 : decode cX5_writeAgain 7 = .ok (.invokestatic 99, 3) := by decide +kernel
theorem dX5_writeAgain_10 : decode cX5_writeAgain 10 = .ok (.istore_n 2, 1) := by decide +kernel
theorem dX5_writeAgain_11 : decode cX5_writeAgain 11 = .ok (.aload_n 0, 1) := by decide +kernel
theorem dX5_writeAgain_12 : decode cX5_writeAgain 12 = .ok (.iload_n 1, 1) := by decide +kernel
theorem dX5_writeAgain_13 : decode cX5_writeAgain 13 = .ok (.invokevirtual 112, 3) := by decide +kernel
theorem dX5_writeAgain_16 : decode cX5_writeAgain 16 = .ok (.aload_n 0, 1) := by decide +kernel
theorem dX5_writeAgain_17 : decode cX5_writeAgain 17 = .ok (.getfield 7, 3) := by decide +kernel
theorem dX5_writeAgain_20 : decode cX5_writeAgain 20 = .ok (.sipush 363, 3) := by decide +kernel
theorem dX5_writeAgain_23 : decode cX5_writeAgain 23 = .ok (.aload_n 0, 1) := by decide +kernel
theorem dX5_writeAgain_24 : decode cX5_writeAgain 24 = .ok (.iload_n 1, 1) := by decide +kernel
theorem dX5_writeAgain_25 : decode cX5_writeAgain 25 = .ok (.iconst 4, 1) := by decide +kernel
theorem dX5_writeAgain_26 : decode cX5_writeAgain 26 = .ok (.invokevirtual 61, 3) := by decide +kernel
theorem dX5_writeAgain_29 : decode cX5_writeAgain 29 = .ok (.iadd, 1) := by decide +kernel
theorem dX5_writeAgain_30 : decode cX5_writeAgain 30 = .ok (.iconst 0, 1) := by decide +kernel
theorem dX5_writeAgain_31 : decode cX5_writeAgain 31 = .ok (.iastore, 1) := by decide +kernel
theorem dX5_writeAgain_32 : decode cX5_writeAgain 32 = .ok (.aload_n 0, 1) := by decide +kernel
theorem dX5_writeAgain_33 : decode cX5_writeAgain 33 = .ok (.iload_n 1, 1) := by decide +kernel
theorem dX5_writeAgain_34 : decode cX5_writeAgain 34 = .ok (.iload_n 2, 1) := by decide +kernel
theorem dX5_writeAgain_35 : decode cX5_writeAgain 35 = .ok (.invokevirtual 115, 3) := by decide +kernel
theorem dX5_writeAgain_38 : decode cX5_writeAgain 38 = .ok (.istore_n 3, 1) := by decide +kernel
theorem dX5_writeAgain_39 : decode cX5_writeAgain 39 = .ok (.iload_n 3, 1) := by decide +kernel
theorem dX5_writeAgain_40 : decode cX5_writeAgain 40 = .ok (.bipush (-6), 2) := by decide +kernel
theorem dX5_writeAgain_42 : decode cX5_writeAgain 42 = .ok (.if_icmp .ne 5, 3) := by decide +kernel
theorem dX5_writeAgain_45 : decode cX5_writeAgain 45 = .ok (.iconst 0, 1) := by decide +kernel
theorem dX5_writeAgain_46 : decode cX5_writeAgain 46 = .ok (.ireturn, 1) := by decide +kernel
theorem dX5_writeAgain_47 : decode cX5_writeAgain 47 = .ok (.aload_n 0, 1) := by decide +kernel
theorem dX5_writeAgain_48 : decode cX5_writeAgain 48 = .ok (.getfield 7, 3) := by decide +kernel
theorem dX5_writeAgain_51 : decode cX5_writeAgain 51 = .ok (.sipush 363, 3) := by decide +kernel
theorem dX5_writeAgain_54 : decode cX5_writeAgain 54 = .ok (.iload_n 3, 1) := by decide +kernel
theorem dX5_writeAgain_55 : decode cX5_writeAgain 55 = .ok (.iadd, 1) := by decide +kernel
theorem dX5_writeAgain_56 : decode cX5_writeAgain 56 = .ok (.iload_n 2, 1) := by decide +kernel
theorem dX5_writeAgain_57 : decode cX5_writeAgain 57 = .ok (.iastore, 1) := by decide +kernel
theorem dX5_writeAgain_58 : decode cX5_writeAgain 58 = .ok (.aload_n 0, 1) := by decide +kernel
theorem dX5_writeAgain_59 : decode cX5_writeAgain 59 = .ok (.iload_n 1, 1) := by decide +kernel
theorem dX5_writeAgain_60 : decode cX5_writeAgain 60 = .ok (.iconst 4, 1) := by decide +kernel
theorem dX5_writeAgain_61 : decode cX5_writeAgain 61 = .ok (.iload_n 3, 1) := by decide +kernel
theorem dX5_writeAgain_62 : decode cX5_writeAgain 62 = .ok (.invokevirtual 91, 3) := by decide +kernel
theorem dX5_writeAgain_65 : decode cX5_writeAgain 65 = .ok (.aload_n 0, 1) := by decide +kernel
theorem dX5_writeAgain_66 : decode cX5_writeAgain 66 = .ok (.iload_n 1, 1) := by decide +kernel
theorem dX5_writeAgain_67 : decode cX5_writeAgain 67 = .ok (.invokevirtual 106, 3) := by decide +kernel
theorem dX5_writeAgain_70 : decode cX5_writeAgain 70 = .ok (.aload_n 0, 1) := by decide +kernel
theorem dX5_writeAgain_71 : decode cX5_writeAgain 71 = .ok (.iload_n 1, 1) := by decide +kernel
theorem dX5_writeAgain_72 : decode cX5_writeAgain 72 = .ok (.invokevirtual 109, 3) := by decide +kernel
theorem dX5_writeAgain_75 : decode cX5_writeAgain 75 = .ok (.ireturn, 1) := by decide +kernel
theorem dX5_freeRow_0 : decode cX5_freeRow 0 = .ok (.bipush (-6), 2) := by decide +kernel
theorem dX5_freeRow_2 : decode cX5_freeRow 2 = .ok (.istore_n 1, 1) := by decide +kernel
theorem dX5_freeRow_3 : decode cX5_freeRow 3 = .ok (.bipush 29, 2) := by decide +kernel
theorem dX5_freeRow_5 : decode cX5_freeRow 5 = .ok (.istore_n 2, 1) := by decide +kernel
theorem dX5_freeRow_6 : decode cX5_freeRow 6 = .ok (.iload_n 2, 1) := by decide +kernel
theorem dX5_freeRow_7 : decode cX5_freeRow 7 = .ok (.ifCond .lt 24, 3) := by decide +kernel
theorem dX5_freeRow_10 : decode cX5_freeRow 10 = .ok (.aload_n 0, 1) := by decide +kernel
theorem dX5_freeRow_11 : decode cX5_freeRow 11 = .ok (.iload_n 2, 1) := by decide +kernel
theorem dX5_freeRow_12 : decode cX5_freeRow 12 = .ok (.iconst 0, 1) := by decide +kernel
theorem dX5_freeRow_13 : decode cX5_freeRow 13 = .ok (.invokevirtual 61, 3) := by decide +kernel
theorem dX5_freeRow_16 : decode cX5_freeRow 16 = .ok (.ifCond .ne 7, 3) := by decide +kernel
theorem dX5_freeRow_19 : decode cX5_freeRow 19 = .ok (.iload_n 2, 1) := by decide +kernel
theorem dX5_freeRow_20 : decode cX5_freeRow 20 = .ok (.goto 4, 3) := by decide +kernel
theorem dX5_freeRow_23 : decode cX5_freeRow 23 = .ok (.iload_n 1, 1) := by decide +kernel
theorem dX5_freeRow_24 : decode cX5_freeRow 24 = .ok (.istore_n 1, 1) := by decide +kernel
theorem dX5_freeRow_25 : decode cX5_freeRow 25 = .ok (.iinc 2 (-1), 3) := by decide +kernel
theorem dX5_freeRow_28 : decode cX5_freeRow 28 = .ok (.goto (-22), 3) := by decide +kernel
theorem dX5_freeRow_31 : decode cX5_freeRow 31 = .ok (.iload_n 1, 1) := by decide +kernel
theorem dX5_freeRow_32 : decode cX5_freeRow 32 = .ok (.ireturn, 1) := by decide +kernel
theorem dX5_writes_0 : decode cX5_writes 0 = .ok (.aload_n 0, 1) := by decide +kernel
theorem dX5_writes_1 : decode cX5_writes 1 = .ok (.iload_n 1, 1) := by decide +kernel
theorem dX5_writes_2 : decode cX5_writes 2 = .ok (.invokevirtual 118, 3) := by decide +kernel
theorem dX5_writes_5 : decode cX5_writes 5 = .ok (.istore_n 2, 1) := by decide +kernel
theorem dX5_writes_6 : decode cX5_writes 6 = .ok (.iload_n 2, 1) := by decide +kernel
theorem dX5_writes_7 : decode cX5_writes 7 = .ok (.bipush (-6), 2) := by decide +kernel
theorem dX5_writes_9 : decode cX5_writes 9 = .ok (.if_icmp .ne 16, 3) := by decide +kernel
theorem dX5_writes_12 : decode cX5_writes 12 = .ok (.aload_n 0, 1) := by decide +kernel
theorem dX5_writes_13 : decode cX5_writes 13 = .ok (.getfield 7, 3) := by decide +kernel
theorem dX5_writes_16 : decode cX5_writes 16 = .ok (.iconst 2, 1) := by decide +kernel
theorem dX5_writes_17 : decode cX5_writes 17 = .ok (.iaload, 1) := by decide +kernel
theorem dX5_writes_18 : decode cX5_writes 18 = .ok (.bipush 30, 2) := by decide +kernel
theorem dX5_writes_20 : decode cX5_writes 20 = .ok (.if_icmp .ne 5, 3) := by decide +kernel
theorem dX5_writes_23 : decode cX5_writes 23 = .ok (.iconst 0, 1) := by decide +kernel
theorem dX5_writes_24 : decode cX5_writes 24 = .ok (.ireturn, 1) := by decide +kernel
theorem dX5_writes_25 : decode cX5_writes 25 = .ok (.aload_n 0, 1) := by decide +kernel
theorem dX5_writes_26 : decode cX5_writes 26 = .ok (.getfield 7, 3) := by decide +kernel
theorem dX5_writes_29 : decode cX5_writes 29 = .ok (.iconst 0, 1) := by decide +kernel
theorem dX5_writes_30 : decode cX5_writes 30 = .ok (.aload_n 0, 1) := by decide +kernel
theorem dX5_writes_31 : decode cX5_writes 31 = .ok (.getfield 16, 3) := by decide +kernel
theorem dX5_writes_34 : decode cX5_writes 34 = .ok (.iconst 0, 1) := by decide +kernel
theorem dX5_writes_35 : decode cX5_writes 35 = .ok (.invokestatic 41, 3) := by decide +kernel
theorem dX5_writes_38 : decode cX5_writes 38 = .ok (.iload_n 2, 1) := by decide +kernel
theorem dX5_writes_39 : decode cX5_writes 39 = .ok (.bipush (-6), 2) := by decide +kernel
theorem dX5_writes_41 : decode cX5_writes 41 = .ok (.if_icmp .ne 41, 3) := by decide +kernel
theorem dX5_writes_44 : decode cX5_writes 44 = .ok (.aload_n 0, 1) := by decide +kernel
theorem dX5_writes_45 : decode cX5_writes 45 = .ok (.invokevirtual 121, 3) := by decide +kernel
theorem dX5_writes_48 : decode cX5_writes 48 = .ok (.istore_n 2, 1) := by decide +kernel
theorem dX5_writes_49 : decode cX5_writes 49 = .ok (.aload_n 0, 1) := by decide +kernel
theorem dX5_writes_50 : decode cX5_writes 50 = .ok (.iload_n 2, 1) := by decide +kernel
theorem dX5_writes_51 : decode cX5_writes 51 = .ok (.iconst 0, 1) := by decide +kernel
theorem dX5_writes_52 : decode cX5_writes 52 = .ok (.iconst 1, 1) := by decide +kernel
theorem dX5_writes_53 : decode cX5_writes 53 = .ok (.invokevirtual 91, 3) := by decide +kernel
theorem dX5_writes_56 : decode cX5_writes 56 = .ok (.aload_n 0, 1) := by decide +kernel
theorem dX5_writes_57 : decode cX5_writes 57 = .ok (.iload_n 2, 1) := by decide +kernel
theorem dX5_writes_58 : decode cX5_writes 58 = .ok (.iconst 1, 1) := by decide +kernel
theorem dX5_writes_59 : decode cX5_writes 59 = .ok (.iload_n 1, 1) := by decide +kernel
theorem dX5_writes_60 : decode cX5_writes 60 = .ok (.invokevirtual 91, 3) := by decide +kernel
theorem dX5_writes_63 : decode cX5_writes 63 = .ok (.aload_n 0, 1) := by decide +kernel
theorem dX5_writes_64 : decode cX5_writes 64 = .ok (.getfield 7, 3) := by decide +kernel
theorem dX5_writes_67 : decode cX5_writes 67 = .ok (.iconst 2, 1) := by decide +kernel
theorem dX5_writes_68 : decode cX5_writes 68 = .ok (.dup2, 1) := by decide +kernel
theorem dX5_writes_69 : decode cX5_writes 69 = .ok (.iaload, 1) := by decide +kernel
theorem dX5_writes_70 : decode cX5_writes 70 = .ok (.iconst 1, 1) := by decide +kernel
theorem dX5_writes_71 : decode cX5_writes 71 = .ok (.iadd, 1) := by decide +kernel
theorem dX5_writes_72 : decode cX5_writes 72 = .ok (.iastore, 1) := by decide +kernel
theorem dX5_writes_73 : decode cX5_writes 73 = .ok (.aload_n 0, 1) := by decide +kernel
theorem dX5_writes_74 : decode cX5_writes 74 = .ok (.iload_n 2, 1) := by decide +kernel
theorem dX5_writes_75 : decode cX5_writes 75 = .ok (.invokevirtual 124, 3) := by decide +kernel
theorem dX5_writes_78 : decode cX5_writes 78 = .ok (.istore_n 3, 1) := by decide +kernel
theorem dX5_writes_79 : decode cX5_writes 79 = .ok (.goto 9, 3) := by decide +kernel
theorem dX5_writes_82 : decode cX5_writes 82 = .ok (.aload_n 0, 1) := by decide +kernel
theorem dX5_writes_83 : decode cX5_writes 83 = .ok (.iload_n 2, 1) := by decide +kernel
theorem dX5_writes_84 : decode cX5_writes 84 = .ok (.invokevirtual 127, 3) := by decide +kernel
theorem dX5_writes_87 : decode cX5_writes 87 = .ok (.istore_n 3, 1) := by decide +kernel
theorem dX5_writes_88 : decode cX5_writes 88 = .ok (.iload_n 3, 1) := by decide +kernel
theorem dX5_writes_89 : decode cX5_writes 89 = .ok (.ifCond .ne 16, 3) := by decide +kernel
theorem dX5_writes_92 : decode cX5_writes 92 = .ok (.aload_n 0, 1) := by decide +kernel
theorem dX5_writes_93 : decode cX5_writes 93 = .ok (.getfield 16, 3) := by decide +kernel
theorem dX5_writes_96 : decode cX5_writes 96 = .ok (.iconst 0, 1) := by decide +kernel
theorem dX5_writes_97 : decode cX5_writes 97 = .ok (.aload_n 0, 1) := by decide +kernel
theorem dX5_writes_98 : decode cX5_writes 98 = .ok (.getfield 7, 3) := by decide +kernel
theorem dX5_writes_101 : decode cX5_writes 101 = .ok (.iconst 0, 1) := by decide +kernel
theorem dX5_writes_102 : decode cX5_writes 102 = .ok (.invokestatic 41, 3) := by decide +kernel
theorem dX5_writes_105 : decode cX5_writes 105 = .ok (.iload_n 3, 1) := by decide +kernel
theorem dX5_writes_106 : decode cX5_writes 106 = .ok (.ireturn, 1) := by decide +kernel
theorem dX5_isValue_0 : decode cX5_isValue 0 = .ok (.iload_n 0, 1) := by decide +kernel
theorem dX5_isValue_1 : decode cX5_isValue 1 = .ok (.ifCond .ne 13, 3) := by decide +kernel
theorem dX5_isValue_4 : decode cX5_isValue 4 = .ok (.iload_n 1, 1) := by decide +kernel
theorem dX5_isValue_5 : decode cX5_isValue 5 = .ok (.iconst 0, 1) := by decide +kernel
theorem dX5_isValue_6 : decode cX5_isValue 6 = .ok (.bipush 16, 2) := by decide +kernel
theorem dX5_isValue_8 : decode cX5_isValue 8 = .ok (.invokestatic 130, 3) := by decide +kernel
theorem dX5_isValue_11 : decode cX5_isValue 11 = .ok (.goto 23, 3) := by decide +kernel
theorem dX5_isValue_14 : decode cX5_isValue 14 = .ok (.iload_n 0, 1) := by decide +kernel
theorem dX5_isValue_15 : decode cX5_isValue 15 = .ok (.iconst 1, 1) := by decide +kernel
theorem dX5_isValue_16 : decode cX5_isValue 16 = .ok (.if_icmp .ne 17, 3) := by decide +kernel
theorem dX5_isValue_19 : decode cX5_isValue 19 = .ok (.iload_n 1, 1) := by decide +kernel
theorem dX5_isValue_20 : decode cX5_isValue 20 = .ok (.iconst 1, 1) := by decide +kernel
theorem dX5_isValue_21 : decode cX5_isValue 21 = .ok (.bipush 12, 2) := by decide +kernel
theorem dX5_isValue_23 : decode cX5_isValue 23 = .ok (.invokestatic 130, 3) := by decide +kernel
theorem dX5_isValue_26 : decode cX5_isValue 26 = .ok (.ifCond .eq 7, 3) := by decide +kernel
theorem dX5_isValue_29 : decode cX5_isValue 29 = .ok (.iconst 1, 1) := by decide +kernel
theorem dX5_isValue_30 : decode cX5_isValue 30 = .ok (.goto 4, 3) := by decide +kernel
theorem dX5_isValue_33 : decode cX5_isValue 33 = .ok (.iconst 0, 1) := by decide +kernel
theorem dX5_isValue_34 : decode cX5_isValue 34 = .ok (.ireturn, 1) := by decide +kernel
theorem dX5_set_0 : decode cX5_set 0 = .ok (.iload_n 1, 1) := by decide +kernel
theorem dX5_set_1 : decode cX5_set 1 = .ok (.iload_n 2, 1) := by decide +kernel
theorem dX5_set_2 : decode cX5_set 2 = .ok (.invokestatic 134, 3) := by decide +kernel
theorem dX5_set_5 : decode cX5_set 5 = .ok (.ifCond .ne 6, 3) := by decide +kernel
theorem dX5_set_8 : decode cX5_set 8 = .ok (.bipush (-2), 2) := by decide +kernel
theorem dX5_set_10 : decode cX5_set 10 = .ok (.ireturn, 1) := by decide +kernel
theorem dX5_set_11 : decode cX5_set 11 = .ok (.aload_n 0, 1) := by decide +kernel
theorem dX5_set_12 : decode cX5_set 12 = .ok (.aload_n 0, 1) := by decide +kernel
theorem dX5_set_13 : decode cX5_set 13 = .ok (.getfield 7, 3) := by decide +kernel
theorem dX5_set_16 : decode cX5_set 16 = .ok (.invokevirtual 138, 3) := by decide +kernel
theorem dX5_set_19 : decode cX5_set 19 = .ok (.aload_n 0, 1) := by decide +kernel
theorem dX5_set_20 : decode cX5_set 20 = .ok (.getfield 7, 3) := by decide +kernel
theorem dX5_set_23 : decode cX5_set 23 = .ok (.iload_n 1, 1) := by decide +kernel
theorem dX5_set_24 : decode cX5_set 24 = .ok (.iaload, 1) := by decide +kernel
theorem dX5_set_25 : decode cX5_set 25 = .ok (.istore_n 3, 1) := by decide +kernel
theorem dX5_set_26 : decode cX5_set 26 = .ok (.aload_n 0, 1) := by decide +kernel
theorem dX5_set_27 : decode cX5_set 27 = .ok (.getfield 7, 3) := by decide +kernel
theorem dX5_set_30 : decode cX5_set 30 = .ok (.iload_n 1, 1) := by decide +kernel
theorem dX5_set_31 : decode cX5_set 31 = .ok (.iload_n 2, 1) := by decide +kernel
theorem dX5_set_32 : decode cX5_set 32 = .ok (.iastore, 1) := by decide +kernel
theorem dX5_set_33 : decode cX5_set 33 = .ok (.iload_n 3, 1) := by decide +kernel
theorem dX5_set_34 : decode cX5_set 34 = .ok (.ireturn, 1) := by decide +kernel
theorem dX5_write_0 : decode cX5_write 0 = .ok (.aload_n 0, 1) := by decide +kernel
theorem dX5_write_1 : decode cX5_write 1 = .ok (.invokevirtual 142, 3) := by decide +kernel
theorem dX5_write_4 : decode cX5_write 4 = .ok (.bipush (-6), 2) := by decide +kernel
theorem dX5_write_6 : decode cX5_write 6 = .ok (.if_icmp .eq 6, 3) := by decide +kernel
theorem dX5_write_9 : decode cX5_write 9 = .ok (.bipush (-3), 2) := by decide +kernel
theorem dX5_write_11 : decode cX5_write 11 = .ok (.ireturn, 1) := by decide +kernel
theorem dX5_write_12 : decode cX5_write 12 = .ok (.aload_n 0, 1) := by decide +kernel
theorem dX5_write_13 : decode cX5_write 13 = .ok (.aload_n 0, 1) := by decide +kernel
theorem dX5_write_14 : decode cX5_write 14 = .ok (.getfield 7, 3) := by decide +kernel
theorem dX5_write_17 : decode cX5_write 17 = .ok (.invokevirtual 138, 3) := by decide +kernel
theorem dX5_write_20 : decode cX5_write 20 = .ok (.iconst 0, 1) := by decide +kernel
theorem dX5_write_21 : decode cX5_write 21 = .ok (.istore_n 1, 1) := by decide +kernel
theorem dX5_write_22 : decode cX5_write 22 = .ok (.iconst 0, 1) := by decide +kernel
theorem dX5_write_23 : decode cX5_write 23 = .ok (.istore_n 2, 1) := by decide +kernel
theorem dX5_write_24 : decode cX5_write 24 = .ok (.iconst 1, 1) := by decide +kernel
theorem dX5_write_25 : decode cX5_write 25 = .ok (.istore_n 3, 1) := by decide +kernel
theorem dX5_write_26 : decode cX5_write 26 = .ok (.iload_n 3, 1) := by decide +kernel
theorem dX5_write_27 : decode cX5_write 27 = .ok (.ifCond .eq 134, 3) := by decide +kernel
theorem dX5_write_30 : decode cX5_write 30 = .ok (.iload_n 2, 1) := by decide +kernel
theorem dX5_write_31 : decode cX5_write 31 = .ok (.aload_n 0, 1) := by decide +kernel
theorem dX5_write_32 : decode cX5_write 32 = .ok (.getfield 145, 3) := by decide +kernel
theorem dX5_write_35 : decode cX5_write 35 = .ok (.if_icmp .ge 126, 3) := by decide +kernel
theorem dX5_write_38 : decode cX5_write 38 = .ok (.iconst 0, 1) := by decide +kernel
theorem dX5_write_39 : decode cX5_write 39 = .ok (.istore 4, 2) := by decide +kernel
theorem dX5_write_41 : decode cX5_write 41 = .ok (.aload_n 0, 1) := by decide +kernel
theorem dX5_write_42 : decode cX5_write 42 = .ok (.getfield 28, 3) := by decide +kernel
theorem dX5_write_45 : decode cX5_write 45 = .ok (.iload_n 2, 1) := by decide +kernel
theorem dX5_write_46 : decode cX5_write 46 = .ok (.iaload, 1) := by decide +kernel
theorem dX5_write_47 : decode cX5_write 47 = .ok (.bipush 61, 2) := by decide +kernel
theorem dX5_write_49 : decode cX5_write 49 = .ok (.if_icmp .eq 26, 3) := by decide +kernel
theorem dX5_write_52 : decode cX5_write 52 = .ok (.bipush 10, 2) := by decide +kernel
theorem dX5_write_54 : decode cX5_write 54 = .ok (.iload 4, 2) := by decide +kernel
theorem dX5_write_56 : decode cX5_write 56 = .ok (.imul, 1) := by decide +kernel
theorem dX5_write_57 : decode cX5_write 57 = .ok (.aload_n 0, 1) := by decide +kernel
theorem dX5_write_58 : decode cX5_write 58 = .ok (.getfield 28, 3) := by decide +kernel
theorem dX5_write_61 : decode cX5_write 61 = .ok (.iload_n 2, 1) := by decide +kernel
theorem dX5_write_62 : decode cX5_write 62 = .ok (.iaload, 1) := by decide +kernel
theorem dX5_write_63 : decode cX5_write 63 = .ok (.iadd, 1) := by decide +kernel
theorem dX5_write_64 : decode cX5_write 64 = .ok (.bipush 48, 2) := by decide +kernel
theorem dX5_write_66 : decode cX5_write 66 = .ok (.isub, 1) := by decide +kernel
theorem dX5_write_67 : decode cX5_write 67 = .ok (.istore 4, 2) := by decide +kernel
theorem dX5_write_69 : decode cX5_write 69 = .ok (.iinc 2 1, 3) := by decide +kernel
theorem dX5_write_72 : decode cX5_write 72 = .ok (.goto (-31), 3) := by decide +kernel
theorem dX5_write_75 : decode cX5_write 75 = .ok (.iinc 2 1, 3) := by decide +kernel
theorem dX5_write_78 : decode cX5_write 78 = .ok (.aload_n 0, 1) := by decide +kernel
theorem dX5_write_79 : decode cX5_write 79 = .ok (.iconst 0, 1) := by decide +kernel
theorem dX5_write_80 : decode cX5_write 80 = .ok (.putfield 85, 3) := by decide +kernel
theorem dX5_write_83 : decode cX5_write 83 = .ok (.iload_n 2, 1) := by decide +kernel
theorem dX5_write_84 : decode cX5_write 84 = .ok (.aload_n 0, 1) := by decide +kernel
theorem dX5_write_85 : decode cX5_write 85 = .ok (.getfield 145, 3) := by decide +kernel
theorem dX5_write_88 : decode cX5_write 88 = .ok (.if_icmp .ge 48, 3) := by decide +kernel
theorem dX5_write_91 : decode cX5_write 91 = .ok (.aload_n 0, 1) := by decide +kernel
theorem dX5_write_92 : decode cX5_write 92 = .ok (.getfield 28, 3) := by decide +kernel
theorem dX5_write_95 : decode cX5_write 95 = .ok (.iload_n 2, 1) := by decide +kernel
theorem dX5_write_96 : decode cX5_write 96 = .ok (.iaload, 1) := by decide +kernel
theorem dX5_write_97 : decode cX5_write 97 = .ok (.bipush 59, 2) := by decide +kernel
theorem dX5_write_99 : decode cX5_write 99 = .ok (.if_icmp .eq 37, 3) := by decide +kernel
theorem dX5_write_102 : decode cX5_write 102 = .ok (.aload_n 0, 1) := by decide +kernel
theorem dX5_write_103 : decode cX5_write 103 = .ok (.getfield 31, 3) := by decide +kernel
theorem dX5_write_106 : decode cX5_write 106 = .ok (.aload_n 0, 1) := by decide +kernel
theorem dX5_write_107 : decode cX5_write 107 = .ok (.getfield 85, 3) := by decide +kernel
theorem dX5_write_110 : decode cX5_write 110 = .ok (.aload_n 0, 1) := by decide +kernel
theorem dX5_write_111 : decode cX5_write 111 = .ok (.getfield 28, 3) := by decide +kernel
theorem dX5_write_114 : decode cX5_write 114 = .ok (.iload_n 2, 1) := by decide +kernel
theorem dX5_write_115 : decode cX5_write 115 = .ok (.iaload, 1) := by decide +kernel
theorem dX5_write_116 : decode cX5_write 116 = .ok (.bipush 97, 2) := by decide +kernel
theorem dX5_write_118 : decode cX5_write 118 = .ok (.isub, 1) := by decide +kernel
theorem dX5_write_119 : decode cX5_write 119 = .ok (.iastore, 1) := by decide +kernel
theorem dX5_write_120 : decode cX5_write 120 = .ok (.aload_n 0, 1) := by decide +kernel
theorem dX5_write_121 : decode cX5_write 121 = .ok (.dup, 1) := by decide +kernel
theorem dX5_write_122 : decode cX5_write 122 = .ok (.getfield 85, 3) := by decide +kernel
theorem dX5_write_125 : decode cX5_write 125 = .ok (.iconst 1, 1) := by decide +kernel
theorem dX5_write_126 : decode cX5_write 126 = .ok (.iadd, 1) := by decide +kernel
theorem dX5_write_127 : decode cX5_write 127 = .ok (.putfield 85, 3) := by decide +kernel
theorem dX5_write_130 : decode cX5_write 130 = .ok (.iinc 2 1, 3) := by decide +kernel
theorem dX5_write_133 : decode cX5_write 133 = .ok (.goto (-50), 3) := by decide +kernel
theorem dX5_write_136 : decode cX5_write 136 = .ok (.iinc 2 1, 3) := by decide +kernel
theorem dX5_write_139 : decode cX5_write 139 = .ok (.aload_n 0, 1) := by decide +kernel
theorem dX5_write_140 : decode cX5_write 140 = .ok (.iload 4, 2) := by decide +kernel
theorem dX5_write_142 : decode cX5_write 142 = .ok (.invokevirtual 148, 3) := by decide +kernel
theorem dX5_write_145 : decode cX5_write 145 = .ok (.istore_n 3, 1) := by decide +kernel
theorem dX5_write_146 : decode cX5_write 146 = .ok (.iload_n 1, 1) := by decide +kernel
theorem dX5_write_147 : decode cX5_write 147 = .ok (.iload_n 3, 1) := by decide +kernel
theorem dX5_write_148 : decode cX5_write 148 = .ok (.ifCond .eq 7, 3) := by decide +kernel
theorem dX5_write_151 : decode cX5_write 151 = .ok (.iconst 1, 1) := by decide +kernel
theorem dX5_write_152 : decode cX5_write 152 = .ok (.goto 4, 3) := by decide +kernel
theorem dX5_write_155 : decode cX5_write 155 = .ok (.iconst 0, 1) := by decide +kernel
theorem dX5_write_156 : decode cX5_write 156 = .ok (.iadd, 1) := by decide +kernel
theorem dX5_write_157 : decode cX5_write 157 = .ok (.istore_n 1, 1) := by decide +kernel
theorem dX5_write_158 : decode cX5_write 158 = .ok (.goto (-132), 3) := by decide +kernel
theorem dX5_write_161 : decode cX5_write 161 = .ok (.aload_n 0, 1) := by decide +kernel
theorem dX5_write_162 : decode cX5_write 162 = .ok (.iconst 0, 1) := by decide +kernel
theorem dX5_write_163 : decode cX5_write 163 = .ok (.putfield 145, 3) := by decide +kernel
theorem dX5_write_166 : decode cX5_write 166 = .ok (.iload_n 1, 1) := by decide +kernel
theorem dX5_write_167 : decode cX5_write 167 = .ok (.ireturn, 1) := by decide +kernel
theorem dX5_append_0 : decode cX5_append 0 = .ok (.aload_n 0, 1) := by decide +kernel
theorem dX5_append_1 : decode cX5_append 1 = .ok (.iload_n 1, 1) := by decide +kernel
theorem dX5_append_2 : decode cX5_append 2 = .ok (.invokevirtual 118, 3) := by decide +kernel
theorem dX5_append_5 : decode cX5_append 5 = .ok (.istore_n 3, 1) := by decide +kernel
theorem dX5_append_6 : decode cX5_append 6 = .ok (.iload_n 3, 1) := by decide +kernel
theorem dX5_append_7 : decode cX5_append 7 = .ok (.bipush (-6), 2) := by decide +kernel
theorem dX5_append_9 : decode cX5_append 9 = .ok (.if_icmp .ne 5, 3) := by decide +kernel
theorem dX5_append_12 : decode cX5_append 12 = .ok (.iconst (-1), 1) := by decide +kernel
theorem dX5_append_13 : decode cX5_append 13 = .ok (.ireturn, 1) := by decide +kernel
theorem dX5_append_14 : decode cX5_append 14 = .ok (.iload_n 2, 1) := by decide +kernel
theorem dX5_append_15 : decode cX5_append 15 = .ok (.iconst 0, 1) := by decide +kernel
theorem dX5_append_16 : decode cX5_append 16 = .ok (.bipush 25, 2) := by decide +kernel
theorem dX5_append_18 : decode cX5_append 18 = .ok (.invokestatic 130, 3) := by decide +kernel
theorem dX5_append_21 : decode cX5_append 21 = .ok (.ifCond .ne 6, 3) := by decide +kernel
theorem dX5_append_24 : decode cX5_append 24 = .ok (.bipush (-2), 2) := by decide +kernel
theorem dX5_append_26 : decode cX5_append 26 = .ok (.ireturn, 1) := by decide +kernel
theorem dX5_append_27 : decode cX5_append 27 = .ok (.aload_n 0, 1) := by decide +kernel
theorem dX5_append_28 : decode cX5_append 28 = .ok (.iload_n 3, 1) := by decide +kernel
theorem dX5_append_29 : decode cX5_append 29 = .ok (.iconst 2, 1) := by decide +kernel
theorem dX5_append_30 : decode cX5_append 30 = .ok (.invokevirtual 61, 3) := by decide +kernel
theorem dX5_append_33 : decode cX5_append 33 = .ok (.bipush 40, 2) := by decide +kernel
theorem dX5_append_35 : decode cX5_append 35 = .ok (.if_icmp .ne 6, 3) := by decide +kernel
theorem dX5_append_38 : decode cX5_append 38 = .ok (.bipush (-4), 2) := by decide +kernel
theorem dX5_append_40 : decode cX5_append 40 = .ok (.ireturn, 1) := by decide +kernel
theorem dX5_append_41 : decode cX5_append 41 = .ok (.aload_n 0, 1) := by decide +kernel
theorem dX5_append_42 : decode cX5_append 42 = .ok (.getfield 7, 3) := by decide +kernel
theorem dX5_append_45 : decode cX5_append 45 = .ok (.iconst 0, 1) := by decide +kernel
theorem dX5_append_46 : decode cX5_append 46 = .ok (.aload_n 0, 1) := by decide +kernel
theorem dX5_append_47 : decode cX5_append 47 = .ok (.getfield 13, 3) := by decide +kernel
theorem dX5_append_50 : decode cX5_append 50 = .ok (.iconst 0, 1) := by decide +kernel
theorem dX5_append_51 : decode cX5_append 51 = .ok (.invokestatic 41, 3) := by decide +kernel
theorem dX5_append_54 : decode cX5_append 54 = .ok (.aload_n 0, 1) := by decide +kernel
theorem dX5_append_55 : decode cX5_append 55 = .ok (.iload_n 3, 1) := by decide +kernel
theorem dX5_append_56 : decode cX5_append 56 = .ok (.invokevirtual 151, 3) := by decide +kernel
theorem dX5_append_59 : decode cX5_append 59 = .ok (.aload_n 0, 1) := by decide +kernel
theorem dX5_append_60 : decode cX5_append 60 = .ok (.getfield 31, 3) := by decide +kernel
theorem dX5_append_63 : decode cX5_append 63 = .ok (.aload_n 0, 1) := by decide +kernel
theorem dX5_append_64 : decode cX5_append 64 = .ok (.getfield 85, 3) := by decide +kernel
theorem dX5_append_67 : decode cX5_append 67 = .ok (.iload_n 2, 1) := by decide +kernel
theorem dX5_append_68 : decode cX5_append 68 = .ok (.iastore, 1) := by decide +kernel
theorem dX5_append_69 : decode cX5_append 69 = .ok (.aload_n 0, 1) := by decide +kernel
theorem dX5_append_70 : decode cX5_append 70 = .ok (.dup, 1) := by decide +kernel
theorem dX5_append_71 : decode cX5_append 71 = .ok (.getfield 85, 3) := by decide +kernel
theorem dX5_append_74 : decode cX5_append 74 = .ok (.iconst 1, 1) := by decide +kernel
theorem dX5_append_75 : decode cX5_append 75 = .ok (.iadd, 1) := by decide +kernel
theorem dX5_append_76 : decode cX5_append 76 = .ok (.putfield 85, 3) := by decide +kernel
theorem dX5_append_79 : decode cX5_append 79 = .ok (.aload_n 0, 1) := by decide +kernel
theorem dX5_append_80 : decode cX5_append 80 = .ok (.iload_n 1, 1) := by decide +kernel
theorem dX5_append_81 : decode cX5_append 81 = .ok (.invokevirtual 148, 3) := by decide +kernel
theorem dX5_append_84 : decode cX5_append 84 = .ok (.ifCond .ne 6, 3) := by decide +kernel
theorem dX5_append_87 : decode cX5_append 87 = .ok (.bipush (-5), 2) := by decide +kernel
theorem dX5_append_89 : decode cX5_append 89 = .ok (.ireturn, 1) := by decide +kernel
theorem dX5_append_90 : decode cX5_append 90 = .ok (.aload_n 0, 1) := by decide +kernel
theorem dX5_append_91 : decode cX5_append 91 = .ok (.aload_n 0, 1) := by decide +kernel
theorem dX5_append_92 : decode cX5_append 92 = .ok (.getfield 13, 3) := by decide +kernel
theorem dX5_append_95 : decode cX5_append 95 = .ok (.invokevirtual 138, 3) := by decide +kernel
theorem dX5_append_98 : decode cX5_append 98 = .ok (.aload_n 0, 1) := by decide +kernel
theorem dX5_append_99 : decode cX5_append 99 = .ok (.getfield 85, 3) := by decide +kernel
theorem dX5_append_102 : decode cX5_append 102 = .ok (.ireturn, 1) := by decide +kernel
theorem dX5_delete_0 : decode cX5_delete 0 = .ok (.aload_n 0, 1) := by decide +kernel
theorem dX5_delete_1 : decode cX5_delete 1 = .ok (.iload_n 1, 1) := by decide +kernel
theorem dX5_delete_2 : decode cX5_delete 2 = .ok (.invokevirtual 118, 3) := by decide +kernel
theorem dX5_delete_5 : decode cX5_delete 5 = .ok (.istore_n 2, 1) := by decide +kernel
theorem dX5_delete_6 : decode cX5_delete 6 = .ok (.iload_n 2, 1) := by decide +kernel
theorem dX5_delete_7 : decode cX5_delete 7 = .ok (.bipush (-6), 2) := by decide +kernel
theorem dX5_delete_9 : decode cX5_delete 9 = .ok (.if_icmp .ne 5, 3) := by decide +kernel
theorem dX5_delete_12 : decode cX5_delete 12 = .ok (.iconst (-1), 1) := by decide +kernel
theorem dX5_delete_13 : decode cX5_delete 13 = .ok (.ireturn, 1) := by decide +kernel
theorem dX5_delete_14 : decode cX5_delete 14 = .ok (.aload_n 0, 1) := by decide +kernel
theorem dX5_delete_15 : decode cX5_delete 15 = .ok (.aload_n 0, 1) := by decide +kernel
theorem dX5_delete_16 : decode cX5_delete 16 = .ok (.getfield 7, 3) := by decide +kernel
theorem dX5_delete_19 : decode cX5_delete 19 = .ok (.invokevirtual 138, 3) := by decide +kernel
theorem dX5_delete_22 : decode cX5_delete 22 = .ok (.aload_n 0, 1) := by decide +kernel
theorem dX5_delete_23 : decode cX5_delete 23 = .ok (.iload_n 2, 1) := by decide +kernel
theorem dX5_delete_24 : decode cX5_delete 24 = .ok (.invokevirtual 154, 3) := by decide +kernel
theorem dX5_delete_27 : decode cX5_delete 27 = .ok (.istore_n 3, 1) := by decide +kernel
theorem dX5_delete_28 : decode cX5_delete 28 = .ok (.aload_n 0, 1) := by decide +kernel
theorem dX5_delete_29 : decode cX5_delete 29 = .ok (.iload_n 2, 1) := by decide +kernel
theorem dX5_delete_30 : decode cX5_delete 30 = .ok (.invokevirtual 112, 3) := by decide +kernel
theorem dX5_delete_33 : decode cX5_delete 33 = .ok (.aload_n 0, 1) := by decide +kernel
theorem dX5_delete_34 : decode cX5_delete 34 = .ok (.getfield 7, 3) := by decide +kernel
theorem dX5_delete_37 : decode cX5_delete 37 = .ok (.sipush 363, 3) := by decide +kernel
theorem dX5_delete_40 : decode cX5_delete 40 = .ok (.aload_n 0, 1) := by decide +kernel
theorem dX5_delete_41 : decode cX5_delete 41 = .ok (.iload_n 2, 1) := by decide +kernel
theorem dX5_delete_42 : decode cX5_delete 42 = .ok (.iconst 4, 1) := by decide +kernel
theorem dX5_delete_43 : decode cX5_delete 43 = .ok (.invokevirtual 61, 3) := by decide +kernel
theorem dX5_delete_46 : decode cX5_delete 46 = .ok (.iadd, 1) := by decide +kernel
theorem dX5_delete_47 : decode cX5_delete 47 = .ok (.iconst 0, 1) := by decide +kernel
theorem dX5_delete_48 : decode cX5_delete 48 = .ok (.iastore, 1) := by decide +kernel
theorem dX5_delete_49 : decode cX5_delete 49 = .ok (.aload_n 0, 1) := by decide +kernel
theorem dX5_delete_50 : decode cX5_delete 50 = .ok (.getfield 7, 3) := by decide +kernel
theorem dX5_delete_53 : decode cX5_delete 53 = .ok (.sipush 363, 3) := by decide +kernel
theorem dX5_delete_56 : decode cX5_delete 56 = .ok (.aload_n 0, 1) := by decide +kernel
theorem dX5_delete_57 : decode cX5_delete 57 = .ok (.iload_n 2, 1) := by decide +kernel
theorem dX5_delete_58 : decode cX5_delete 58 = .ok (.iconst 3, 1) := by decide +kernel
theorem dX5_delete_59 : decode cX5_delete 59 = .ok (.invokevirtual 61, 3) := by decide +kernel
theorem dX5_delete_62 : decode cX5_delete 62 = .ok (.iadd, 1) := by decide +kernel
theorem dX5_delete_63 : decode cX5_delete 63 = .ok (.iconst 0, 1) := by decide +kernel
theorem dX5_delete_64 : decode cX5_delete 64 = .ok (.iastore, 1) := by decide +kernel
theorem dX5_delete_65 : decode cX5_delete 65 = .ok (.iconst 0, 1) := by decide +kernel
theorem dX5_delete_66 : decode cX5_delete 66 = .ok (.istore 4, 2) := by decide +kernel
theorem dX5_delete_68 : decode cX5_delete 68 = .ok (.iload 4, 2) := by decide +kernel
theorem dX5_delete_70 : decode cX5_delete 70 = .ok (.bipush 12, 2) := by decide +kernel
theorem dX5_delete_72 : decode cX5_delete 72 = .ok (.if_icmp .ge 17, 3) := by decide +kernel
theorem dX5_delete_75 : decode cX5_delete 75 = .ok (.aload_n 0, 1) := by decide +kernel
theorem dX5_delete_76 : decode cX5_delete 76 = .ok (.iload_n 2, 1) := by decide +kernel
theorem dX5_delete_77 : decode cX5_delete 77 = .ok (.iload 4, 2) := by decide +kernel
theorem dX5_delete_79 : decode cX5_delete 79 = .ok (.iconst 0, 1) := by decide +kernel
theorem dX5_delete_80 : decode cX5_delete 80 = .ok (.invokevirtual 91, 3) := by decide +kernel
theorem dX5_delete_83 : decode cX5_delete 83 = .ok (.iinc 4 1, 3) := by decide +kernel
theorem dX5_delete_86 : decode cX5_delete 86 = .ok (.goto (-18), 3) := by decide +kernel
theorem dX5_delete_89 : decode cX5_delete 89 = .ok (.aload_n 0, 1) := by decide +kernel
theorem dX5_delete_90 : decode cX5_delete 90 = .ok (.getfield 7, 3) := by decide +kernel
theorem dX5_delete_93 : decode cX5_delete 93 = .ok (.iconst 2, 1) := by decide +kernel
theorem dX5_delete_94 : decode cX5_delete 94 = .ok (.dup2, 1) := by decide +kernel
theorem dX5_delete_95 : decode cX5_delete 95 = .ok (.iaload, 1) := by decide +kernel
theorem dX5_delete_96 : decode cX5_delete 96 = .ok (.iconst 1, 1) := by decide +kernel
theorem dX5_delete_97 : decode cX5_delete 97 = .ok (.isub, 1) := by decide +kernel
theorem dX5_delete_98 : decode cX5_delete 98 = .ok (.iastore, 1) := by decide +kernel
theorem dX5_delete_99 : decode cX5_delete 99 = .ok (.iload_n 3, 1) := by decide +kernel
theorem dX5_delete_100 : decode cX5_delete 100 = .ok (.ireturn, 1) := by decide +kernel
theorem dX5_keyAt_0 : decode cX5_keyAt 0 = .ok (.iload_n 1, 1) := by decide +kernel
theorem dX5_keyAt_1 : decode cX5_keyAt 1 = .ok (.istore_n 2, 1) := by decide +kernel
theorem dX5_keyAt_2 : decode cX5_keyAt 2 = .ok (.iconst 0, 1) := by decide +kernel
theorem dX5_keyAt_3 : decode cX5_keyAt 3 = .ok (.istore_n 3, 1) := by decide +kernel
theorem dX5_keyAt_4 : decode cX5_keyAt 4 = .ok (.iload_n 3, 1) := by decide +kernel
theorem dX5_keyAt_5 : decode cX5_keyAt 5 = .ok (.bipush 99, 2) := by decide +kernel
theorem dX5_keyAt_7 : decode cX5_keyAt 7 = .ok (.if_icmp .gt 28, 3) := by decide +kernel
theorem dX5_keyAt_10 : decode cX5_keyAt 10 = .ok (.aload_n 0, 1) := by decide +kernel
theorem dX5_keyAt_11 : decode cX5_keyAt 11 = .ok (.iload_n 3, 1) := by decide +kernel
theorem dX5_keyAt_12 : decode cX5_keyAt 12 = .ok (.invokevirtual 118, 3) := by decide +kernel
theorem dX5_keyAt_15 : decode cX5_keyAt 15 = .ok (.bipush (-6), 2) := by decide +kernel
theorem dX5_keyAt_17 : decode cX5_keyAt 17 = .ok (.if_icmp .eq 12, 3) := by decide +kernel
theorem dX5_keyAt_20 : decode cX5_keyAt 20 = .ok (.iload_n 2, 1) := by decide +kernel
theorem dX5_keyAt_21 : decode cX5_keyAt 21 = .ok (.ifCond .ne 5, 3) := by decide +kernel
theorem dX5_keyAt_24 : decode cX5_keyAt 24 = .ok (.iload_n 3, 1) := by decide +kernel
theorem dX5_keyAt_25 : decode cX5_keyAt 25 = .ok (.ireturn, 1) := by decide +kernel
theorem dX5_keyAt_26 : decode cX5_keyAt 26 = .ok (.iinc 2 (-1), 3) := by decide +kernel
theorem dX5_keyAt_29 : decode cX5_keyAt 29 = .ok (.iinc 3 1, 3) := by decide +kernel
theorem dX5_keyAt_32 : decode cX5_keyAt 32 = .ok (.goto (-28), 3) := by decide +kernel
theorem dX5_keyAt_35 : decode cX5_keyAt 35 = .ok (.bipush (-6), 2) := by decide +kernel
theorem dX5_keyAt_37 : decode cX5_keyAt 37 = .ok (.ireturn, 1) := by decide +kernel
theorem dX5_packs_0 : decode cX5_packs 0 = .ok (.iconst 0, 1) := by decide +kernel
theorem dX5_packs_1 : decode cX5_packs 1 = .ok (.istore_n 1, 1) := by decide +kernel
theorem dX5_packs_2 : decode cX5_packs 2 = .ok (.iload_n 1, 1) := by decide +kernel
theorem dX5_packs_3 : decode cX5_packs 3 = .ok (.sipush 400, 3) := by decide +kernel
theorem dX5_packs_6 : decode cX5_packs 6 = .ok (.if_icmp .ge 20, 3) := by decide +kernel
theorem dX5_packs_9 : decode cX5_packs 9 = .ok (.aload_n 0, 1) := by decide +kernel
theorem dX5_packs_10 : decode cX5_packs 10 = .ok (.getfield 7, 3) := by decide +kernel
theorem dX5_packs_13 : decode cX5_packs 13 = .ok (.sipush 363, 3) := by decide +kernel
theorem dX5_packs_16 : decode cX5_packs 16 = .ok (.iload_n 1, 1) := by decide +kernel
theorem dX5_packs_17 : decode cX5_packs 17 = .ok (.iadd, 1) := by decide +kernel
theorem dX5_packs_18 : decode cX5_packs 18 = .ok (.iconst 0, 1) := by decide +kernel
theorem dX5_packs_19 : decode cX5_packs 19 = .ok (.iastore, 1) := by decide +kernel
theorem dX5_packs_20 : decode cX5_packs 20 = .ok (.iinc 1 1, 3) := by decide +kernel
theorem dX5_packs_23 : decode cX5_packs 23 = .ok (.goto (-21), 3) := by decide +kernel
theorem dX5_packs_26 : decode cX5_packs 26 = .ok (.iconst 1, 1) := by decide +kernel
theorem dX5_packs_27 : decode cX5_packs 27 = .ok (.istore_n 1, 1) := by decide +kernel
theorem dX5_packs_28 : decode cX5_packs 28 = .ok (.iconst 0, 1) := by decide +kernel
theorem dX5_packs_29 : decode cX5_packs 29 = .ok (.istore_n 2, 1) := by decide +kernel
theorem dX5_packs_30 : decode cX5_packs 30 = .ok (.iload_n 2, 1) := by decide +kernel
theorem dX5_packs_31 : decode cX5_packs 31 = .ok (.aload_n 0, 1) := by decide +kernel
theorem dX5_packs_32 : decode cX5_packs 32 = .ok (.getfield 7, 3) := by decide +kernel
theorem dX5_packs_35 : decode cX5_packs 35 = .ok (.iconst 2, 1) := by decide +kernel
theorem dX5_packs_36 : decode cX5_packs 36 = .ok (.iaload, 1) := by decide +kernel
theorem dX5_packs_37 : decode cX5_packs 37 = .ok (.if_icmp .ge 34, 3) := by decide +kernel
theorem dX5_packs_40 : decode cX5_packs 40 = .ok (.iload_n 1, 1) := by decide +kernel
theorem dX5_packs_41 : decode cX5_packs 41 = .ok (.ifCond .eq 30, 3) := by decide +kernel
theorem dX5_packs_44 : decode cX5_packs 44 = .ok (.aload_n 0, 1) := by decide +kernel
theorem dX5_packs_45 : decode cX5_packs 45 = .ok (.aload_n 0, 1) := by decide +kernel
theorem dX5_packs_46 : decode cX5_packs 46 = .ok (.iload_n 2, 1) := by decide +kernel
theorem dX5_packs_47 : decode cX5_packs 47 = .ok (.invokevirtual 157, 3) := by decide +kernel
theorem dX5_packs_50 : decode cX5_packs 50 = .ok (.invokevirtual 118, 3) := by decide +kernel
theorem dX5_packs_53 : decode cX5_packs 53 = .ok (.istore_n 3, 1) := by decide +kernel
theorem dX5_packs_54 : decode cX5_packs 54 = .ok (.aload_n 0, 1) := by decide +kernel
theorem dX5_packs_55 : decode cX5_packs 55 = .ok (.iload_n 3, 1) := by decide +kernel
theorem dX5_packs_56 : decode cX5_packs 56 = .ok (.invokevirtual 151, 3) := by decide +kernel
theorem dX5_packs_59 : decode cX5_packs 59 = .ok (.aload_n 0, 1) := by decide +kernel
theorem dX5_packs_60 : decode cX5_packs 60 = .ok (.iload_n 3, 1) := by decide +kernel
theorem dX5_packs_61 : decode cX5_packs 61 = .ok (.invokevirtual 124, 3) := by decide +kernel
theorem dX5_packs_64 : decode cX5_packs 64 = .ok (.istore_n 1, 1) := by decide +kernel
theorem dX5_packs_65 : decode cX5_packs 65 = .ok (.iinc 2 1, 3) := by decide +kernel
theorem dX5_packs_68 : decode cX5_packs 68 = .ok (.goto (-38), 3) := by decide +kernel
theorem dX5_packs_71 : decode cX5_packs 71 = .ok (.iload_n 1, 1) := by decide +kernel
theorem dX5_packs_72 : decode cX5_packs 72 = .ok (.ireturn, 1) := by decide +kernel
theorem dX5_pagesWith_0 : decode cX5_pagesWith 0 = .ok (.iconst 0, 1) := by decide +kernel
theorem dX5_pagesWith_1 : decode cX5_pagesWith 1 = .ok (.istore_n 1, 1) := by decide +kernel
theorem dX5_pagesWith_2 : decode cX5_pagesWith 2 = .ok (.iconst 0, 1) := by decide +kernel
theorem dX5_pagesWith_3 : decode cX5_pagesWith 3 = .ok (.istore_n 2, 1) := by decide +kernel
theorem dX5_pagesWith_4 : decode cX5_pagesWith 4 = .ok (.iload_n 2, 1) := by decide +kernel
theorem dX5_pagesWith_5 : decode cX5_pagesWith 5 = .ok (.bipush 10, 2) := by decide +kernel
theorem dX5_pagesWith_7 : decode cX5_pagesWith 7 = .ok (.if_icmp .ge 25, 3) := by decide +kernel
theorem dX5_pagesWith_10 : decode cX5_pagesWith 10 = .ok (.iload_n 1, 1) := by decide +kernel
theorem dX5_pagesWith_11 : decode cX5_pagesWith 11 = .ok (.aload_n 0, 1) := by decide +kernel
theorem dX5_pagesWith_12 : decode cX5_pagesWith 12 = .ok (.iload_n 2, 1) := by decide +kernel
theorem dX5_pagesWith_13 : decode cX5_pagesWith 13 = .ok (.invokevirtual 160, 3) := by decide +kernel
theorem dX5_pagesWith_16 : decode cX5_pagesWith 16 = .ok (.ifCond .le 7, 3) := by decide +kernel
theorem dX5_pagesWith_19 : decode cX5_pagesWith 19 = .ok (.iconst 1, 1) := by decide +kernel
theorem dX5_pagesWith_20 : decode cX5_pagesWith 20 = .ok (.goto 4, 3) := by decide +kernel
theorem dX5_pagesWith_23 : decode cX5_pagesWith 23 = .ok (.iconst 0, 1) := by decide +kernel
theorem dX5_pagesWith_24 : decode cX5_pagesWith 24 = .ok (.iadd, 1) := by decide +kernel
theorem dX5_pagesWith_25 : decode cX5_pagesWith 25 = .ok (.istore_n 1, 1) := by decide +kernel
theorem dX5_pagesWith_26 : decode cX5_pagesWith 26 = .ok (.iinc 2 1, 3) := by decide +kernel
theorem dX5_pagesWith_29 : decode cX5_pagesWith 29 = .ok (.goto (-25), 3) := by decide +kernel
theorem dX5_pagesWith_32 : decode cX5_pagesWith 32 = .ok (.iload_n 1, 1) := by decide +kernel
theorem dX5_pagesWith_33 : decode cX5_pagesWith 33 = .ok (.ireturn, 1) := by decide +kernel
theorem dX5_pack_0 : decode cX5_pack 0 = .ok (.aload_n 0, 1) := by decide +kernel
theorem dX5_pack_1 : decode cX5_pack 1 = .ok (.getfield 7, 3) := by decide +kernel
theorem dX5_pack_4 : decode cX5_pack 4 = .ok (.iconst 0, 1) := by decide +kernel
theorem dX5_pack_5 : decode cX5_pack 5 = .ok (.aload_n 0, 1) := by decide +kernel
theorem dX5_pack_6 : decode cX5_pack 6 = .ok (.getfield 13, 3) := by decide +kernel
theorem dX5_pack_9 : decode cX5_pack 9 = .ok (.iconst 0, 1) := by decide +kernel
theorem dX5_pack_10 : decode cX5_pack 10 = .ok (.invokestatic 41, 3) := by decide +kernel
theorem dX5_pack_13 : decode cX5_pack 13 = .ok (.aload_n 0, 1) := by decide +kernel
theorem dX5_pack_14 : decode cX5_pack 14 = .ok (.invokevirtual 163, 3) := by decide +kernel
theorem dX5_pack_17 : decode cX5_pack 17 = .ok (.ifCond .ne 19, 3) := by decide +kernel
theorem dX5_pack_20 : decode cX5_pack 20 = .ok (.aload_n 0, 1) := by decide +kernel
theorem dX5_pack_21 : decode cX5_pack 21 = .ok (.getfield 13, 3) := by decide +kernel
theorem dX5_pack_24 : decode cX5_pack 24 = .ok (.iconst 0, 1) := by decide +kernel
theorem dX5_pack_25 : decode cX5_pack 25 = .ok (.aload_n 0, 1) := by decide +kernel
theorem dX5_pack_26 : decode cX5_pack 26 = .ok (.getfield 7, 3) := by decide +kernel
theorem dX5_pack_29 : decode cX5_pack 29 = .ok (.iconst 0, 1) := by decide +kernel
theorem dX5_pack_30 : decode cX5_pack 30 = .ok (.invokestatic 41, 3) := by decide +kernel
theorem dX5_pack_33 : decode cX5_pack 33 = .ok (.bipush (-5), 2) := by decide +kernel
theorem dX5_pack_35 : decode cX5_pack 35 = .ok (.ireturn, 1) := by decide +kernel
theorem dX5_pack_36 : decode cX5_pack 36 = .ok (.aload_n 0, 1) := by decide +kernel
theorem dX5_pack_37 : decode cX5_pack 37 = .ok (.aload_n 0, 1) := by decide +kernel
theorem dX5_pack_38 : decode cX5_pack 38 = .ok (.getfield 13, 3) := by decide +kernel
theorem dX5_pack_41 : decode cX5_pack 41 = .ok (.invokevirtual 138, 3) := by decide +kernel
theorem dX5_pack_44 : decode cX5_pack 44 = .ok (.aload_n 0, 1) := by decide +kernel
theorem dX5_pack_45 : decode cX5_pack 45 = .ok (.invokevirtual 167, 3) := by decide +kernel
theorem dX5_pack_48 : decode cX5_pack 48 = .ok (.ireturn, 1) := by decide +kernel
theorem dX5_row_0 : decode cX5_row 0 = .ok (.aload_n 0, 1) := by decide +kernel
theorem dX5_row_1 : decode cX5_row 1 = .ok (.iload_n 1, 1) := by decide +kernel
theorem dX5_row_2 : decode cX5_row 2 = .ok (.invokevirtual 118, 3) := by decide +kernel
theorem dX5_row_5 : decode cX5_row 5 = .ok (.istore_n 3, 1) := by decide +kernel
theorem dX5_row_6 : decode cX5_row 6 = .ok (.iload_n 3, 1) := by decide +kernel
theorem dX5_row_7 : decode cX5_row 7 = .ok (.bipush (-6), 2) := by decide +kernel
theorem dX5_row_9 : decode cX5_row 9 = .ok (.if_icmp .ne 5, 3) := by decide +kernel
theorem dX5_row_12 : decode cX5_row 12 = .ok (.iconst (-1), 1) := by decide +kernel
theorem dX5_row_13 : decode cX5_row 13 = .ok (.ireturn, 1) := by decide +kernel
theorem dX5_row_14 : decode cX5_row 14 = .ok (.iload_n 2, 1) := by decide +kernel
theorem dX5_row_15 : decode cX5_row 15 = .ok (.tableswitch 145 0 9 #[53, 60, 70, 80, 90, 100, 114, 123, 133, 139], 53) := by decide +kernel
theorem dX5_row_68 : decode cX5_row 68 = .ok (.aload_n 0, 1) := by decide +kernel
theorem dX5_row_69 : decode cX5_row 69 = .ok (.iload_n 3, 1) := by decide +kernel
theorem dX5_row_70 : decode cX5_row 70 = .ok (.iconst 2, 1) := by decide +kernel
theorem dX5_row_71 : decode cX5_row 71 = .ok (.invokevirtual 61, 3) := by decide +kernel
theorem dX5_row_74 : decode cX5_row 74 = .ok (.ireturn, 1) := by decide +kernel
theorem dX5_row_75 : decode cX5_row 75 = .ok (.aload_n 0, 1) := by decide +kernel
theorem dX5_row_76 : decode cX5_row 76 = .ok (.iload_n 3, 1) := by decide +kernel
theorem dX5_row_77 : decode cX5_row 77 = .ok (.iconst 3, 1) := by decide +kernel
theorem dX5_row_78 : decode cX5_row 78 = .ok (.invokevirtual 61, 3) := by decide +kernel
theorem dX5_row_81 : decode cX5_row 81 = .ok (.bipush 40, 2) := by decide +kernel
theorem dX5_row_83 : decode cX5_row 83 = .ok (.idiv, 1) := by decide +kernel
theorem dX5_row_84 : decode cX5_row 84 = .ok (.ireturn, 1) := by decide +kernel
theorem dX5_row_85 : decode cX5_row 85 = .ok (.aload_n 0, 1) := by decide +kernel
theorem dX5_row_86 : decode cX5_row 86 = .ok (.iload_n 3, 1) := by decide +kernel
theorem dX5_row_87 : decode cX5_row 87 = .ok (.iconst 3, 1) := by decide +kernel
theorem dX5_row_88 : decode cX5_row 88 = .ok (.invokevirtual 61, 3) := by decide +kernel
theorem dX5_row_91 : decode cX5_row 91 = .ok (.bipush 40, 2) := by decide +kernel
theorem dX5_row_93 : decode cX5_row 93 = .ok (.irem, 1) := by decide +kernel
theorem dX5_row_94 : decode cX5_row 94 = .ok (.ireturn, 1) := by decide +kernel
theorem dX5_row_95 : decode cX5_row 95 = .ok (.aload_n 0, 1) := by decide +kernel
theorem dX5_row_96 : decode cX5_row 96 = .ok (.iload_n 3, 1) := by decide +kernel
theorem dX5_row_97 : decode cX5_row 97 = .ok (.iconst 4, 1) := by decide +kernel
theorem dX5_row_98 : decode cX5_row 98 = .ok (.invokevirtual 61, 3) := by decide +kernel
theorem dX5_row_101 : decode cX5_row 101 = .ok (.bipush 40, 2) := by decide +kernel
theorem dX5_row_103 : decode cX5_row 103 = .ok (.idiv, 1) := by decide +kernel
theorem dX5_row_104 : decode cX5_row 104 = .ok (.ireturn, 1) := by decide +kernel
theorem dX5_row_105 : decode cX5_row 105 = .ok (.aload_n 0, 1) := by decide +kernel
theorem dX5_row_106 : decode cX5_row 106 = .ok (.iload_n 3, 1) := by decide +kernel
theorem dX5_row_107 : decode cX5_row 107 = .ok (.iconst 4, 1) := by decide +kernel
theorem dX5_row_108 : decode cX5_row 108 = .ok (.invokevirtual 61, 3) := by decide +kernel
theorem dX5_row_111 : decode cX5_row 111 = .ok (.bipush 40, 2) := by decide +kernel
theorem dX5_row_113 : decode cX5_row 113 = .ok (.irem, 1) := by decide +kernel
theorem dX5_row_114 : decode cX5_row 114 = .ok (.ireturn, 1) := by decide +kernel
theorem dX5_row_115 : decode cX5_row 115 = .ok (.aload_n 0, 1) := by decide +kernel
theorem dX5_row_116 : decode cX5_row 116 = .ok (.iload_n 3, 1) := by decide +kernel
theorem dX5_row_117 : decode cX5_row 117 = .ok (.invokevirtual 81, 3) := by decide +kernel
theorem dX5_row_120 : decode cX5_row 120 = .ok (.ifCond .eq 7, 3) := by decide +kernel
theorem dX5_row_123 : decode cX5_row 123 = .ok (.iconst 1, 1) := by decide +kernel
theorem dX5_row_124 : decode cX5_row 124 = .ok (.goto 4, 3) := by decide +kernel
theorem dX5_row_127 : decode cX5_row 127 = .ok (.iconst 0, 1) := by decide +kernel
theorem dX5_row_128 : decode cX5_row 128 = .ok (.ireturn, 1) := by decide +kernel
theorem dX5_row_129 : decode cX5_row 129 = .ok (.aload_n 0, 1) := by decide +kernel
theorem dX5_row_130 : decode cX5_row 130 = .ok (.iload_n 3, 1) := by decide +kernel
theorem dX5_row_131 : decode cX5_row 131 = .ok (.invokevirtual 78, 3) := by decide +kernel
theorem dX5_row_134 : decode cX5_row 134 = .ok (.invokestatic 49, 3) := by decide +kernel
theorem dX5_row_137 : decode cX5_row 137 = .ok (.ireturn, 1) := by decide +kernel
theorem dX5_row_138 : decode cX5_row 138 = .ok (.aload_n 0, 1) := by decide +kernel
theorem dX5_row_139 : decode cX5_row 139 = .ok (.iload_n 3, 1) := by decide +kernel
theorem dX5_row_140 : decode cX5_row 140 = .ok (.invokevirtual 74, 3) := by decide +kernel
theorem dX5_row_143 : decode cX5_row 143 = .ok (.aload_n 0, 1) := by decide +kernel
theorem dX5_row_144 : decode cX5_row 144 = .ok (.getfield 65, 3) := by decide +kernel
theorem dX5_row_147 : decode cX5_row 147 = .ok (.ireturn, 1) := by decide +kernel
theorem dX5_row_148 : decode cX5_row 148 = .ok (.aload_n 0, 1) := by decide +kernel
theorem dX5_row_149 : decode cX5_row 149 = .ok (.iload_n 3, 1) := by decide +kernel
theorem dX5_row_150 : decode cX5_row 150 = .ok (.invokevirtual 170, 3) := by decide +kernel
theorem dX5_row_153 : decode cX5_row 153 = .ok (.ireturn, 1) := by decide +kernel
theorem dX5_row_154 : decode cX5_row 154 = .ok (.aload_n 0, 1) := by decide +kernel
theorem dX5_row_155 : decode cX5_row 155 = .ok (.iload_n 3, 1) := by decide +kernel
theorem dX5_row_156 : decode cX5_row 156 = .ok (.invokevirtual 154, 3) := by decide +kernel
theorem dX5_row_159 : decode cX5_row 159 = .ok (.ireturn, 1) := by decide +kernel
theorem dX5_row_160 : decode cX5_row 160 = .ok (.bipush (-2), 2) := by decide +kernel
theorem dX5_row_162 : decode cX5_row 162 = .ok (.ireturn, 1) := by decide +kernel
theorem dX5_letter_0 : decode cX5_letter 0 = .ok (.aload_n 0, 1) := by decide +kernel
theorem dX5_letter_1 : decode cX5_letter 1 = .ok (.iload_n 1, 1) := by decide +kernel
theorem dX5_letter_2 : decode cX5_letter 2 = .ok (.invokevirtual 118, 3) := by decide +kernel
theorem dX5_letter_5 : decode cX5_letter 5 = .ok (.istore_n 3, 1) := by decide +kernel
theorem dX5_letter_6 : decode cX5_letter 6 = .ok (.iload_n 3, 1) := by decide +kernel
theorem dX5_letter_7 : decode cX5_letter 7 = .ok (.bipush (-6), 2) := by decide +kernel
theorem dX5_letter_9 : decode cX5_letter 9 = .ok (.if_icmp .eq 28, 3) := by decide +kernel
theorem dX5_letter_12 : decode cX5_letter 12 = .ok (.iload_n 2, 1) := by decide +kernel
theorem dX5_letter_13 : decode cX5_letter 13 = .ok (.iconst 0, 1) := by decide +kernel
theorem dX5_letter_14 : decode cX5_letter 14 = .ok (.aload_n 0, 1) := by decide +kernel
theorem dX5_letter_15 : decode cX5_letter 15 = .ok (.iload_n 3, 1) := by decide +kernel
theorem dX5_letter_16 : decode cX5_letter 16 = .ok (.iconst 2, 1) := by decide +kernel
theorem dX5_letter_17 : decode cX5_letter 17 = .ok (.invokevirtual 61, 3) := by decide +kernel
theorem dX5_letter_20 : decode cX5_letter 20 = .ok (.iconst 1, 1) := by decide +kernel
theorem dX5_letter_21 : decode cX5_letter 21 = .ok (.isub, 1) := by decide +kernel
theorem dX5_letter_22 : decode cX5_letter 22 = .ok (.invokestatic 130, 3) := by decide +kernel
theorem dX5_letter_25 : decode cX5_letter 25 = .ok (.ifCond .eq 12, 3) := by decide +kernel
theorem dX5_letter_28 : decode cX5_letter 28 = .ok (.aload_n 0, 1) := by decide +kernel
theorem dX5_letter_29 : decode cX5_letter 29 = .ok (.iload_n 3, 1) := by decide +kernel
theorem dX5_letter_30 : decode cX5_letter 30 = .ok (.iload_n 2, 1) := by decide +kernel
theorem dX5_letter_31 : decode cX5_letter 31 = .ok (.invokevirtual 88, 3) := by decide +kernel
theorem dX5_letter_34 : decode cX5_letter 34 = .ok (.goto 4, 3) := by decide +kernel
theorem dX5_letter_37 : decode cX5_letter 37 = .ok (.iconst (-1), 1) := by decide +kernel
theorem dX5_letter_38 : decode cX5_letter 38 = .ok (.ireturn, 1) := by decide +kernel
theorem dX5_piece_0 : decode cX5_piece 0 = .ok (.aload_n 0, 1) := by decide +kernel
theorem dX5_piece_1 : decode cX5_piece 1 = .ok (.iload_n 1, 1) := by decide +kernel
theorem dX5_piece_2 : decode cX5_piece 2 = .ok (.invokevirtual 118, 3) := by decide +kernel
theorem dX5_piece_5 : decode cX5_piece 5 = .ok (.istore 4, 2) := by decide +kernel
theorem dX5_piece_7 : decode cX5_piece 7 = .ok (.iload 4, 2) := by decide +kernel
theorem dX5_piece_9 : decode cX5_piece 9 = .ok (.bipush (-6), 2) := by decide +kernel
theorem dX5_piece_11 : decode cX5_piece 11 = .ok (.if_icmp .ne 5, 3) := by decide +kernel
theorem dX5_piece_14 : decode cX5_piece 14 = .ok (.iconst (-1), 1) := by decide +kernel
theorem dX5_piece_15 : decode cX5_piece 15 = .ok (.ireturn, 1) := by decide +kernel
theorem dX5_piece_16 : decode cX5_piece 16 = .ok (.aload_n 0, 1) := by decide +kernel
theorem dX5_piece_17 : decode cX5_piece 17 = .ok (.iload 4, 2) := by decide +kernel
theorem dX5_piece_19 : decode cX5_piece 19 = .ok (.invokevirtual 74, 3) := by decide +kernel
theorem dX5_piece_22 : decode cX5_piece 22 = .ok (.iload_n 2, 1) := by decide +kernel
theorem dX5_piece_23 : decode cX5_piece 23 = .ok (.iconst 0, 1) := by decide +kernel
theorem dX5_piece_24 : decode cX5_piece 24 = .ok (.aload_n 0, 1) := by decide +kernel
theorem dX5_piece_25 : decode cX5_piece 25 = .ok (.getfield 65, 3) := by decide +kernel
theorem dX5_piece_28 : decode cX5_piece 28 = .ok (.iconst 1, 1) := by decide +kernel
theorem dX5_piece_29 : decode cX5_piece 29 = .ok (.isub, 1) := by decide +kernel
theorem dX5_piece_30 : decode cX5_piece 30 = .ok (.invokestatic 130, 3) := by decide +kernel
theorem dX5_piece_33 : decode cX5_piece 33 = .ok (.ifCond .ne 5, 3) := by decide +kernel
theorem dX5_piece_36 : decode cX5_piece 36 = .ok (.iconst (-1), 1) := by decide +kernel
theorem dX5_piece_37 : decode cX5_piece 37 = .ok (.ireturn, 1) := by decide +kernel
theorem dX5_piece_38 : decode cX5_piece 38 = .ok (.iload_n 3, 1) := by decide +kernel
theorem dX5_piece_39 : decode cX5_piece 39 = .ok (.tableswitch 64 0 2 #[25, 35, 45], 25) := by decide +kernel
theorem dX5_piece_64 : decode cX5_piece 64 = .ok (.aload_n 0, 1) := by decide +kernel
theorem dX5_piece_65 : decode cX5_piece 65 = .ok (.getfield 34, 3) := by decide +kernel
theorem dX5_piece_68 : decode cX5_piece 68 = .ok (.iload_n 2, 1) := by decide +kernel
theorem dX5_piece_69 : decode cX5_piece 69 = .ok (.iaload, 1) := by decide +kernel
theorem dX5_piece_70 : decode cX5_piece 70 = .ok (.bipush 40, 2) := by decide +kernel
theorem dX5_piece_72 : decode cX5_piece 72 = .ok (.idiv, 1) := by decide +kernel
theorem dX5_piece_73 : decode cX5_piece 73 = .ok (.ireturn, 1) := by decide +kernel
theorem dX5_piece_74 : decode cX5_piece 74 = .ok (.aload_n 0, 1) := by decide +kernel
theorem dX5_piece_75 : decode cX5_piece 75 = .ok (.getfield 34, 3) := by decide +kernel
theorem dX5_piece_78 : decode cX5_piece 78 = .ok (.iload_n 2, 1) := by decide +kernel
theorem dX5_piece_79 : decode cX5_piece 79 = .ok (.iaload, 1) := by decide +kernel
theorem dX5_piece_80 : decode cX5_piece 80 = .ok (.bipush 40, 2) := by decide +kernel
theorem dX5_piece_82 : decode cX5_piece 82 = .ok (.irem, 1) := by decide +kernel
theorem dX5_piece_83 : decode cX5_piece 83 = .ok (.ireturn, 1) := by decide +kernel
theorem dX5_piece_84 : decode cX5_piece 84 = .ok (.aload_n 0, 1) := by decide +kernel
theorem dX5_piece_85 : decode cX5_piece 85 = .ok (.getfield 7, 3) := by decide +kernel
theorem dX5_piece_88 : decode cX5_piece 88 = .ok (.sipush 363, 3) := by decide +kernel
theorem dX5_piece_91 : decode cX5_piece 91 = .ok (.aload_n 0, 1) := by decide +kernel
theorem dX5_piece_92 : decode cX5_piece 92 = .ok (.getfield 34, 3) := by decide +kernel
theorem dX5_piece_95 : decode cX5_piece 95 = .ok (.iload_n 2, 1) := by decide +kernel
theorem dX5_piece_96 : decode cX5_piece 96 = .ok (.iaload, 1) := by decide +kernel
theorem dX5_piece_97 : decode cX5_piece 97 = .ok (.iadd, 1) := by decide +kernel
theorem dX5_piece_98 : decode cX5_piece 98 = .ok (.iaload, 1) := by decide +kernel
theorem dX5_piece_99 : decode cX5_piece 99 = .ok (.invokestatic 49, 3) := by decide +kernel
theorem dX5_piece_102 : decode cX5_piece 102 = .ok (.ireturn, 1) := by decide +kernel
theorem dX5_piece_103 : decode cX5_piece 103 = .ok (.bipush (-2), 2) := by decide +kernel
theorem dX5_piece_105 : decode cX5_piece 105 = .ok (.ireturn, 1) := by decide +kernel
theorem dX5_page_0 : decode cX5_page 0 = .ok (.iload_n 1, 1) := by decide +kernel
theorem dX5_page_1 : decode cX5_page 1 = .ok (.iconst 0, 1) := by decide +kernel
theorem dX5_page_2 : decode cX5_page 2 = .ok (.bipush 9, 2) := by decide +kernel
theorem dX5_page_4 : decode cX5_page 4 = .ok (.invokestatic 130, 3) := by decide +kernel
theorem dX5_page_7 : decode cX5_page 7 = .ok (.ifCond .ne 5, 3) := by decide +kernel
theorem dX5_page_10 : decode cX5_page 10 = .ok (.iconst (-1), 1) := by decide +kernel
theorem dX5_page_11 : decode cX5_page 11 = .ok (.ireturn, 1) := by decide +kernel
theorem dX5_page_12 : decode cX5_page 12 = .ok (.iload_n 2, 1) := by decide +kernel
theorem dX5_page_13 : decode cX5_page 13 = .ok (.tableswitch 85 0 5 #[39, 45, 51, 58, 65, 72], 39) := by decide +kernel
theorem dX5_page_52 : decode cX5_page 52 = .ok (.aload_n 0, 1) := by decide +kernel
theorem dX5_page_53 : decode cX5_page 53 = .ok (.iload_n 1, 1) := by decide +kernel
theorem dX5_page_54 : decode cX5_page 54 = .ok (.invokevirtual 55, 3) := by decide +kernel
theorem dX5_page_57 : decode cX5_page 57 = .ok (.ireturn, 1) := by decide +kernel
theorem dX5_page_58 : decode cX5_page 58 = .ok (.aload_n 0, 1) := by decide +kernel
theorem dX5_page_59 : decode cX5_page 59 = .ok (.iload_n 1, 1) := by decide +kernel
theorem dX5_page_60 : decode cX5_page 60 = .ok (.invokevirtual 160, 3) := by decide +kernel
theorem dX5_page_63 : decode cX5_page 63 = .ok (.ireturn, 1) := by decide +kernel
theorem dX5_page_64 : decode cX5_page 64 = .ok (.aload_n 0, 1) := by decide +kernel
theorem dX5_page_65 : decode cX5_page 65 = .ok (.iload_n 1, 1) := by decide +kernel
theorem dX5_page_66 : decode cX5_page 66 = .ok (.iconst 1, 1) := by decide +kernel
theorem dX5_page_67 : decode cX5_page 67 = .ok (.invokevirtual 173, 3) := by decide +kernel
theorem dX5_page_70 : decode cX5_page 70 = .ok (.ireturn, 1) := by decide +kernel
theorem dX5_page_71 : decode cX5_page 71 = .ok (.aload_n 0, 1) := by decide +kernel
theorem dX5_page_72 : decode cX5_page 72 = .ok (.iload_n 1, 1) := by decide +kernel
theorem dX5_page_73 : decode cX5_page 73 = .ok (.iconst 2, 1) := by decide +kernel
theorem dX5_page_74 : decode cX5_page 74 = .ok (.invokevirtual 173, 3) := by decide +kernel
theorem dX5_page_77 : decode cX5_page 77 = .ok (.ireturn, 1) := by decide +kernel
theorem dX5_page_78 : decode cX5_page 78 = .ok (.aload_n 0, 1) := by decide +kernel
theorem dX5_page_79 : decode cX5_page 79 = .ok (.iload_n 1, 1) := by decide +kernel
theorem dX5_page_80 : decode cX5_page 80 = .ok (.iconst 3, 1) := by decide +kernel
theorem dX5_page_81 : decode cX5_page 81 = .ok (.invokevirtual 173, 3) := by decide +kernel
theorem dX5_page_84 : decode cX5_page 84 = .ok (.ireturn, 1) := by decide +kernel
theorem dX5_page_85 : decode cX5_page 85 = .ok (.aload_n 0, 1) := by decide +kernel
theorem dX5_page_86 : decode cX5_page 86 = .ok (.iload_n 1, 1) := by decide +kernel
theorem dX5_page_87 : decode cX5_page 87 = .ok (.invokevirtual 160, 3) := by decide +kernel
theorem dX5_page_90 : decode cX5_page 90 = .ok (.aload_n 0, 1) := by decide +kernel
theorem dX5_page_91 : decode cX5_page 91 = .ok (.iload_n 1, 1) := by decide +kernel
theorem dX5_page_92 : decode cX5_page 92 = .ok (.iconst 0, 1) := by decide +kernel
theorem dX5_page_93 : decode cX5_page 93 = .ok (.invokevirtual 173, 3) := by decide +kernel
theorem dX5_page_96 : decode cX5_page 96 = .ok (.isub, 1) := by decide +kernel
theorem dX5_page_97 : decode cX5_page 97 = .ok (.ireturn, 1) := by decide +kernel
theorem dX5_page_98 : decode cX5_page 98 = .ok (.bipush (-2), 2) := by decide +kernel
theorem dX5_page_100 : decode cX5_page 100 = .ok (.ireturn, 1) := by decide +kernel
theorem dX5_slot_0 : decode cX5_slot 0 = .ok (.iload_n 1, 1) := by decide +kernel
theorem dX5_slot_1 : decode cX5_slot 1 = .ok (.iconst 0, 1) := by decide +kernel
theorem dX5_slot_2 : decode cX5_slot 2 = .ok (.bipush 9, 2) := by decide +kernel
theorem dX5_slot_4 : decode cX5_slot 4 = .ok (.invokestatic 130, 3) := by decide +kernel
theorem dX5_slot_7 : decode cX5_slot 7 = .ok (.ifCond .eq 18, 3) := by decide +kernel
theorem dX5_slot_10 : decode cX5_slot 10 = .ok (.iload_n 2, 1) := by decide +kernel
theorem dX5_slot_11 : decode cX5_slot 11 = .ok (.iconst 0, 1) := by decide +kernel
theorem dX5_slot_12 : decode cX5_slot 12 = .ok (.aload_n 0, 1) := by decide +kernel
theorem dX5_slot_13 : decode cX5_slot 13 = .ok (.iload_n 1, 1) := by decide +kernel
theorem dX5_slot_14 : decode cX5_slot 14 = .ok (.invokevirtual 160, 3) := by decide +kernel
theorem dX5_slot_17 : decode cX5_slot 17 = .ok (.iconst 1, 1) := by decide +kernel
theorem dX5_slot_18 : decode cX5_slot 18 = .ok (.isub, 1) := by decide +kernel
theorem dX5_slot_19 : decode cX5_slot 19 = .ok (.invokestatic 130, 3) := by decide +kernel
theorem dX5_slot_22 : decode cX5_slot 22 = .ok (.ifCond .ne 5, 3) := by decide +kernel
theorem dX5_slot_25 : decode cX5_slot 25 = .ok (.iconst (-1), 1) := by decide +kernel
theorem dX5_slot_26 : decode cX5_slot 26 = .ok (.ireturn, 1) := by decide +kernel
theorem dX5_slot_27 : decode cX5_slot 27 = .ok (.aload_n 0, 1) := by decide +kernel
theorem dX5_slot_28 : decode cX5_slot 28 = .ok (.getfield 7, 3) := by decide +kernel
theorem dX5_slot_31 : decode cX5_slot 31 = .ok (.sipush 363, 3) := by decide +kernel
theorem dX5_slot_34 : decode cX5_slot 34 = .ok (.bipush 40, 2) := by decide +kernel
theorem dX5_slot_36 : decode cX5_slot 36 = .ok (.iload_n 1, 1) := by decide +kernel
theorem dX5_slot_37 : decode cX5_slot 37 = .ok (.imul, 1) := by decide +kernel
theorem dX5_slot_38 : decode cX5_slot 38 = .ok (.iadd, 1) := by decide +kernel
theorem dX5_slot_39 : decode cX5_slot 39 = .ok (.iload_n 2, 1) := by decide +kernel
theorem dX5_slot_40 : decode cX5_slot 40 = .ok (.iadd, 1) := by decide +kernel
theorem dX5_slot_41 : decode cX5_slot 41 = .ok (.iaload, 1) := by decide +kernel
theorem dX5_slot_42 : decode cX5_slot 42 = .ok (.istore 4, 2) := by decide +kernel
theorem dX5_slot_44 : decode cX5_slot 44 = .ok (.iload_n 3, 1) := by decide +kernel
theorem dX5_slot_45 : decode cX5_slot 45 = .ok (.tableswitch 60 0 2 #[27, 33, 54], 27) := by decide +kernel
theorem dX5_slot_72 : decode cX5_slot 72 = .ok (.iload 4, 2) := by decide +kernel
theorem dX5_slot_74 : decode cX5_slot 74 = .ok (.invokestatic 45, 3) := by decide +kernel
theorem dX5_slot_77 : decode cX5_slot 77 = .ok (.ireturn, 1) := by decide +kernel
theorem dX5_slot_78 : decode cX5_slot 78 = .ok (.iload 4, 2) := by decide +kernel
theorem dX5_slot_80 : decode cX5_slot 80 = .ok (.ifCond .ne 8, 3) := by decide +kernel
theorem dX5_slot_83 : decode cX5_slot 83 = .ok (.bipush (-6), 2) := by decide +kernel
theorem dX5_slot_85 : decode cX5_slot 85 = .ok (.goto 13, 3) := by decide +kernel
theorem dX5_slot_88 : decode cX5_slot 88 = .ok (.aload_n 0, 1) := by decide +kernel
theorem dX5_slot_89 : decode cX5_slot 89 = .ok (.iload 4, 2) := by decide +kernel
theorem dX5_slot_91 : decode cX5_slot 91 = .ok (.invokestatic 68, 3) := by decide +kernel
theorem dX5_slot_94 : decode cX5_slot 94 = .ok (.iconst 1, 1) := by decide +kernel
theorem dX5_slot_95 : decode cX5_slot 95 = .ok (.invokevirtual 61, 3) := by decide +kernel
theorem dX5_slot_98 : decode cX5_slot 98 = .ok (.ireturn, 1) := by decide +kernel
theorem dX5_slot_99 : decode cX5_slot 99 = .ok (.iload 4, 2) := by decide +kernel
theorem dX5_slot_101 : decode cX5_slot 101 = .ok (.invokestatic 52, 3) := by decide +kernel
theorem dX5_slot_104 : decode cX5_slot 104 = .ok (.ireturn, 1) := by decide +kernel
theorem dX5_slot_105 : decode cX5_slot 105 = .ok (.bipush (-2), 2) := by decide +kernel
theorem dX5_slot_107 : decode cX5_slot 107 = .ok (.ireturn, 1) := by decide +kernel
theorem dX5_thingsOf_0 : decode cX5_thingsOf 0 = .ok (.iconst 0, 1) := by decide +kernel
theorem dX5_thingsOf_1 : decode cX5_thingsOf 1 = .ok (.istore_n 2, 1) := by decide +kernel
theorem dX5_thingsOf_2 : decode cX5_thingsOf 2 = .ok (.iconst 0, 1) := by decide +kernel
theorem dX5_thingsOf_3 : decode cX5_thingsOf 3 = .ok (.istore_n 3, 1) := by decide +kernel
theorem dX5_thingsOf_4 : decode cX5_thingsOf 4 = .ok (.iload_n 3, 1) := by decide +kernel
theorem dX5_thingsOf_5 : decode cX5_thingsOf 5 = .ok (.bipush 10, 2) := by decide +kernel
theorem dX5_thingsOf_7 : decode cX5_thingsOf 7 = .ok (.if_icmp .ge 18, 3) := by decide +kernel
theorem dX5_thingsOf_10 : decode cX5_thingsOf 10 = .ok (.iload_n 2, 1) := by decide +kernel
theorem dX5_thingsOf_11 : decode cX5_thingsOf 11 = .ok (.aload_n 0, 1) := by decide +kernel
theorem dX5_thingsOf_12 : decode cX5_thingsOf 12 = .ok (.iload_n 3, 1) := by decide +kernel
theorem dX5_thingsOf_13 : decode cX5_thingsOf 13 = .ok (.iload_n 1, 1) := by decide +kernel
theorem dX5_thingsOf_14 : decode cX5_thingsOf 14 = .ok (.invokevirtual 173, 3) := by decide +kernel
theorem dX5_thingsOf_17 : decode cX5_thingsOf 17 = .ok (.iadd, 1) := by decide +kernel
theorem dX5_thingsOf_18 : decode cX5_thingsOf 18 = .ok (.istore_n 2, 1) := by decide +kernel
theorem dX5_thingsOf_19 : decode cX5_thingsOf 19 = .ok (.iinc 3 1, 3) := by decide +kernel
theorem dX5_thingsOf_22 : decode cX5_thingsOf 22 = .ok (.goto (-18), 3) := by decide +kernel
theorem dX5_thingsOf_25 : decode cX5_thingsOf 25 = .ok (.iload_n 2, 1) := by decide +kernel
theorem dX5_thingsOf_26 : decode cX5_thingsOf 26 = .ok (.ireturn, 1) := by decide +kernel
theorem dX5_allFree_0 : decode cX5_allFree 0 = .ok (.iconst 0, 1) := by decide +kernel
theorem dX5_allFree_1 : decode cX5_allFree 1 = .ok (.istore_n 1, 1) := by decide +kernel
theorem dX5_allFree_2 : decode cX5_allFree 2 = .ok (.iconst 0, 1) := by decide +kernel
theorem dX5_allFree_3 : decode cX5_allFree 3 = .ok (.istore_n 2, 1) := by decide +kernel
theorem dX5_allFree_4 : decode cX5_allFree 4 = .ok (.iload_n 2, 1) := by decide +kernel
theorem dX5_allFree_5 : decode cX5_allFree 5 = .ok (.bipush 10, 2) := by decide +kernel
theorem dX5_allFree_7 : decode cX5_allFree 7 = .ok (.if_icmp .ge 17, 3) := by decide +kernel
theorem dX5_allFree_10 : decode cX5_allFree 10 = .ok (.iload_n 1, 1) := by decide +kernel
theorem dX5_allFree_11 : decode cX5_allFree 11 = .ok (.aload_n 0, 1) := by decide +kernel
theorem dX5_allFree_12 : decode cX5_allFree 12 = .ok (.iload_n 2, 1) := by decide +kernel
theorem dX5_allFree_13 : decode cX5_allFree 13 = .ok (.invokevirtual 55, 3) := by decide +kernel
theorem dX5_allFree_16 : decode cX5_allFree 16 = .ok (.iadd, 1) := by decide +kernel
theorem dX5_allFree_17 : decode cX5_allFree 17 = .ok (.istore_n 1, 1) := by decide +kernel
theorem dX5_allFree_18 : decode cX5_allFree 18 = .ok (.iinc 2 1, 3) := by decide +kernel
theorem dX5_allFree_21 : decode cX5_allFree 21 = .ok (.goto (-17), 3) := by decide +kernel
theorem dX5_allFree_24 : decode cX5_allFree 24 = .ok (.iload_n 1, 1) := by decide +kernel
theorem dX5_allFree_25 : decode cX5_allFree 25 = .ok (.ireturn, 1) := by decide +kernel
theorem dX5_sumOfCosts_0 : decode cX5_sumOfCosts 0 = .ok (.iconst 0, 1) := by decide +kernel
theorem dX5_sumOfCosts_1 : decode cX5_sumOfCosts 1 = .ok (.istore_n 1, 1) := by decide +kernel
theorem dX5_sumOfCosts_2 : decode cX5_sumOfCosts 2 = .ok (.iconst 0, 1) := by decide +kernel
theorem dX5_sumOfCosts_3 : decode cX5_sumOfCosts 3 = .ok (.istore_n 2, 1) := by decide +kernel
theorem dX5_sumOfCosts_4 : decode cX5_sumOfCosts 4 = .ok (.iload_n 2, 1) := by decide +kernel
theorem dX5_sumOfCosts_5 : decode cX5_sumOfCosts 5 = .ok (.bipush 30, 2) := by decide +kernel
theorem dX5_sumOfCosts_7 : decode cX5_sumOfCosts 7 = .ok (.if_icmp .ge 31, 3) := by decide +kernel
theorem dX5_sumOfCosts_10 : decode cX5_sumOfCosts 10 = .ok (.iload_n 1, 1) := by decide +kernel
theorem dX5_sumOfCosts_11 : decode cX5_sumOfCosts 11 = .ok (.aload_n 0, 1) := by decide +kernel
theorem dX5_sumOfCosts_12 : decode cX5_sumOfCosts 12 = .ok (.iload_n 2, 1) := by decide +kernel
theorem dX5_sumOfCosts_13 : decode cX5_sumOfCosts 13 = .ok (.iconst 0, 1) := by decide +kernel
theorem dX5_sumOfCosts_14 : decode cX5_sumOfCosts 14 = .ok (.invokevirtual 61, 3) := by decide +kernel
theorem dX5_sumOfCosts_17 : decode cX5_sumOfCosts 17 = .ok (.iconst 1, 1) := by decide +kernel
theorem dX5_sumOfCosts_18 : decode cX5_sumOfCosts 18 = .ok (.if_icmp .ne 11, 3) := by decide +kernel
theorem dX5_sumOfCosts_21 : decode cX5_sumOfCosts 21 = .ok (.aload_n 0, 1) := by decide +kernel
theorem dX5_sumOfCosts_22 : decode cX5_sumOfCosts 22 = .ok (.iload_n 2, 1) := by decide +kernel
theorem dX5_sumOfCosts_23 : decode cX5_sumOfCosts 23 = .ok (.invokevirtual 170, 3) := by decide +kernel
theorem dX5_sumOfCosts_26 : decode cX5_sumOfCosts 26 = .ok (.goto 4, 3) := by decide +kernel
theorem dX5_sumOfCosts_29 : decode cX5_sumOfCosts 29 = .ok (.iconst 0, 1) := by decide +kernel
theorem dX5_sumOfCosts_30 : decode cX5_sumOfCosts 30 = .ok (.iadd, 1) := by decide +kernel
theorem dX5_sumOfCosts_31 : decode cX5_sumOfCosts 31 = .ok (.istore_n 1, 1) := by decide +kernel
theorem dX5_sumOfCosts_32 : decode cX5_sumOfCosts 32 = .ok (.iinc 2 1, 3) := by decide +kernel
theorem dX5_sumOfCosts_35 : decode cX5_sumOfCosts 35 = .ok (.goto (-31), 3) := by decide +kernel
theorem dX5_sumOfCosts_38 : decode cX5_sumOfCosts 38 = .ok (.iload_n 1, 1) := by decide +kernel
theorem dX5_sumOfCosts_39 : decode cX5_sumOfCosts 39 = .ok (.ireturn, 1) := by decide +kernel
theorem dX5_greatestCost_0 : decode cX5_greatestCost 0 = .ok (.bipush (-6), 2) := by decide +kernel
theorem dX5_greatestCost_2 : decode cX5_greatestCost 2 = .ok (.istore_n 1, 1) := by decide +kernel
theorem dX5_greatestCost_3 : decode cX5_greatestCost 3 = .ok (.iconst 0, 1) := by decide +kernel
theorem dX5_greatestCost_4 : decode cX5_greatestCost 4 = .ok (.istore_n 2, 1) := by decide +kernel
theorem dX5_greatestCost_5 : decode cX5_greatestCost 5 = .ok (.iload_n 2, 1) := by decide +kernel
theorem dX5_greatestCost_6 : decode cX5_greatestCost 6 = .ok (.bipush 30, 2) := by decide +kernel
theorem dX5_greatestCost_8 : decode cX5_greatestCost 8 = .ok (.if_icmp .ge 38, 3) := by decide +kernel
theorem dX5_greatestCost_11 : decode cX5_greatestCost 11 = .ok (.aload_n 0, 1) := by decide +kernel
theorem dX5_greatestCost_12 : decode cX5_greatestCost 12 = .ok (.iload_n 2, 1) := by decide +kernel
theorem dX5_greatestCost_13 : decode cX5_greatestCost 13 = .ok (.iconst 0, 1) := by decide +kernel
theorem dX5_greatestCost_14 : decode cX5_greatestCost 14 = .ok (.invokevirtual 61, 3) := by decide +kernel
theorem dX5_greatestCost_17 : decode cX5_greatestCost 17 = .ok (.iconst 1, 1) := by decide +kernel
theorem dX5_greatestCost_18 : decode cX5_greatestCost 18 = .ok (.if_icmp .ne 20, 3) := by decide +kernel
theorem dX5_greatestCost_21 : decode cX5_greatestCost 21 = .ok (.aload_n 0, 1) := by decide +kernel
theorem dX5_greatestCost_22 : decode cX5_greatestCost 22 = .ok (.iload_n 2, 1) := by decide +kernel
theorem dX5_greatestCost_23 : decode cX5_greatestCost 23 = .ok (.invokevirtual 170, 3) := by decide +kernel
theorem dX5_greatestCost_26 : decode cX5_greatestCost 26 = .ok (.iload_n 1, 1) := by decide +kernel
theorem dX5_greatestCost_27 : decode cX5_greatestCost 27 = .ok (.if_icmp .le 11, 3) := by decide +kernel
theorem dX5_greatestCost_30 : decode cX5_greatestCost 30 = .ok (.aload_n 0, 1) := by decide +kernel
theorem dX5_greatestCost_31 : decode cX5_greatestCost 31 = .ok (.iload_n 2, 1) := by decide +kernel
theorem dX5_greatestCost_32 : decode cX5_greatestCost 32 = .ok (.invokevirtual 170, 3) := by decide +kernel
theorem dX5_greatestCost_35 : decode cX5_greatestCost 35 = .ok (.goto 4, 3) := by decide +kernel
theorem dX5_greatestCost_38 : decode cX5_greatestCost 38 = .ok (.iload_n 1, 1) := by decide +kernel
theorem dX5_greatestCost_39 : decode cX5_greatestCost 39 = .ok (.istore_n 1, 1) := by decide +kernel
theorem dX5_greatestCost_40 : decode cX5_greatestCost 40 = .ok (.iinc 2 1, 3) := by decide +kernel
theorem dX5_greatestCost_43 : decode cX5_greatestCost 43 = .ok (.goto (-38), 3) := by decide +kernel
theorem dX5_greatestCost_46 : decode cX5_greatestCost 46 = .ok (.iload_n 1, 1) := by decide +kernel
theorem dX5_greatestCost_47 : decode cX5_greatestCost 47 = .ok (.ireturn, 1) := by decide +kernel
theorem dX5_allLetters_0 : decode cX5_allLetters 0 = .ok (.iconst 0, 1) := by decide +kernel
theorem dX5_allLetters_1 : decode cX5_allLetters 1 = .ok (.istore_n 1, 1) := by decide +kernel
theorem dX5_allLetters_2 : decode cX5_allLetters 2 = .ok (.iconst 0, 1) := by decide +kernel
theorem dX5_allLetters_3 : decode cX5_allLetters 3 = .ok (.istore_n 2, 1) := by decide +kernel
theorem dX5_allLetters_4 : decode cX5_allLetters 4 = .ok (.iload_n 2, 1) := by decide +kernel
theorem dX5_allLetters_5 : decode cX5_allLetters 5 = .ok (.bipush 30, 2) := by decide +kernel
theorem dX5_allLetters_7 : decode cX5_allLetters 7 = .ok (.if_icmp .ge 18, 3) := by decide +kernel
theorem dX5_allLetters_10 : decode cX5_allLetters 10 = .ok (.iload_n 1, 1) := by decide +kernel
theorem dX5_allLetters_11 : decode cX5_allLetters 11 = .ok (.aload_n 0, 1) := by decide +kernel
theorem dX5_allLetters_12 : decode cX5_allLetters 12 = .ok (.iload_n 2, 1) := by decide +kernel
theorem dX5_allLetters_13 : decode cX5_allLetters 13 = .ok (.iconst 2, 1) := by decide +kernel
theorem dX5_allLetters_14 : decode cX5_allLetters 14 = .ok (.invokevirtual 61, 3) := by decide +kernel
theorem dX5_allLetters_17 : decode cX5_allLetters 17 = .ok (.iadd, 1) := by decide +kernel
theorem dX5_allLetters_18 : decode cX5_allLetters 18 = .ok (.istore_n 1, 1) := by decide +kernel
theorem dX5_allLetters_19 : decode cX5_allLetters 19 = .ok (.iinc 2 1, 3) := by decide +kernel
theorem dX5_allLetters_22 : decode cX5_allLetters 22 = .ok (.goto (-18), 3) := by decide +kernel
theorem dX5_allLetters_25 : decode cX5_allLetters 25 = .ok (.iload_n 1, 1) := by decide +kernel
theorem dX5_allLetters_26 : decode cX5_allLetters 26 = .ok (.ireturn, 1) := by decide +kernel
theorem dX5_count_0 : decode cX5_count 0 = .ok (.iload_n 1, 1) := by decide +kernel
theorem dX5_count_1 : decode cX5_count 1 = .ok (.tableswitch 127 0 11 #[63, 70, 75, 81, 87, 92, 97, 102, 107, 107, 117, 122], 63) := by decide +kernel
theorem dX5_count_64 : decode cX5_count 64 = .ok (.aload_n 0, 1) := by decide +kernel
theorem dX5_count_65 : decode cX5_count 65 = .ok (.getfield 7, 3) := by decide +kernel
theorem dX5_count_68 : decode cX5_count 68 = .ok (.iconst 2, 1) := by decide +kernel
theorem dX5_count_69 : decode cX5_count 69 = .ok (.iaload, 1) := by decide +kernel
theorem dX5_count_70 : decode cX5_count 70 = .ok (.ireturn, 1) := by decide +kernel
theorem dX5_count_71 : decode cX5_count 71 = .ok (.aload_n 0, 1) := by decide +kernel
theorem dX5_count_72 : decode cX5_count 72 = .ok (.invokevirtual 167, 3) := by decide +kernel
theorem dX5_count_75 : decode cX5_count 75 = .ok (.ireturn, 1) := by decide +kernel
theorem dX5_count_76 : decode cX5_count 76 = .ok (.aload_n 0, 1) := by decide +kernel
theorem dX5_count_77 : decode cX5_count 77 = .ok (.iconst 3, 1) := by decide +kernel
theorem dX5_count_78 : decode cX5_count 78 = .ok (.invokevirtual 176, 3) := by decide +kernel
theorem dX5_count_81 : decode cX5_count 81 = .ok (.ireturn, 1) := by decide +kernel
theorem dX5_count_82 : decode cX5_count 82 = .ok (.aload_n 0, 1) := by decide +kernel
theorem dX5_count_83 : decode cX5_count 83 = .ok (.iconst 2, 1) := by decide +kernel
theorem dX5_count_84 : decode cX5_count 84 = .ok (.invokevirtual 176, 3) := by decide +kernel
theorem dX5_count_87 : decode cX5_count 87 = .ok (.ireturn, 1) := by decide +kernel
theorem dX5_count_88 : decode cX5_count 88 = .ok (.aload_n 0, 1) := by decide +kernel
theorem dX5_count_89 : decode cX5_count 89 = .ok (.invokevirtual 179, 3) := by decide +kernel
theorem dX5_count_92 : decode cX5_count 92 = .ok (.ireturn, 1) := by decide +kernel
theorem dX5_count_93 : decode cX5_count 93 = .ok (.aload_n 0, 1) := by decide +kernel
theorem dX5_count_94 : decode cX5_count 94 = .ok (.invokevirtual 182, 3) := by decide +kernel
theorem dX5_count_97 : decode cX5_count 97 = .ok (.ireturn, 1) := by decide +kernel
theorem dX5_count_98 : decode cX5_count 98 = .ok (.aload_n 0, 1) := by decide +kernel
theorem dX5_count_99 : decode cX5_count 99 = .ok (.invokevirtual 185, 3) := by decide +kernel
theorem dX5_count_102 : decode cX5_count 102 = .ok (.ireturn, 1) := by decide +kernel
theorem dX5_count_103 : decode cX5_count 103 = .ok (.aload_n 0, 1) := by decide +kernel
theorem dX5_count_104 : decode cX5_count 104 = .ok (.invokevirtual 188, 3) := by decide +kernel
theorem dX5_count_107 : decode cX5_count 107 = .ok (.ireturn, 1) := by decide +kernel
theorem dX5_count_108 : decode cX5_count 108 = .ok (.aload_n 0, 1) := by decide +kernel
theorem dX5_count_109 : decode cX5_count 109 = .ok (.getfield 7, 3) := by decide +kernel
theorem dX5_count_112 : decode cX5_count 112 = .ok (.iload_n 1, 1) := by decide +kernel
theorem dX5_count_113 : decode cX5_count 113 = .ok (.bipush 8, 2) := by decide +kernel
theorem dX5_count_115 : decode cX5_count 115 = .ok (.isub, 1) := by decide +kernel
theorem dX5_count_116 : decode cX5_count 116 = .ok (.iaload, 1) := by decide +kernel
theorem dX5_count_117 : decode cX5_count 117 = .ok (.ireturn, 1) := by decide +kernel
theorem dX5_count_118 : decode cX5_count 118 = .ok (.aload_n 0, 1) := by decide +kernel
theorem dX5_count_119 : decode cX5_count 119 = .ok (.getfield 145, 3) := by decide +kernel
theorem dX5_count_122 : decode cX5_count 122 = .ok (.ireturn, 1) := by decide +kernel
theorem dX5_count_123 : decode cX5_count 123 = .ok (.aload_n 0, 1) := by decide +kernel
theorem dX5_count_124 : decode cX5_count 124 = .ok (.getfield 37, 3) := by decide +kernel
theorem dX5_count_127 : decode cX5_count 127 = .ok (.ireturn, 1) := by decide +kernel
theorem dX5_count_128 : decode cX5_count 128 = .ok (.bipush (-2), 2) := by decide +kernel
theorem dX5_count_130 : decode cX5_count 130 = .ok (.ireturn, 1) := by decide +kernel
theorem dX5_key_0 : decode cX5_key 0 = .ok (.iload_n 1, 1) := by decide +kernel
theorem dX5_key_1 : decode cX5_key 1 = .ok (.iconst 0, 1) := by decide +kernel
theorem dX5_key_2 : decode cX5_key 2 = .ok (.aload_n 0, 1) := by decide +kernel
theorem dX5_key_3 : decode cX5_key 3 = .ok (.getfield 7, 3) := by decide +kernel
theorem dX5_key_6 : decode cX5_key 6 = .ok (.iconst 2, 1) := by decide +kernel
theorem dX5_key_7 : decode cX5_key 7 = .ok (.iaload, 1) := by decide +kernel
theorem dX5_key_8 : decode cX5_key 8 = .ok (.iconst 1, 1) := by decide +kernel
theorem dX5_key_9 : decode cX5_key 9 = .ok (.isub, 1) := by decide +kernel
theorem dX5_key_10 : decode cX5_key 10 = .ok (.invokestatic 130, 3) := by decide +kernel
theorem dX5_key_13 : decode cX5_key 13 = .ok (.ifCond .eq 11, 3) := by decide +kernel
theorem dX5_key_16 : decode cX5_key 16 = .ok (.aload_n 0, 1) := by decide +kernel
theorem dX5_key_17 : decode cX5_key 17 = .ok (.iload_n 1, 1) := by decide +kernel
theorem dX5_key_18 : decode cX5_key 18 = .ok (.invokevirtual 157, 3) := by decide +kernel
theorem dX5_key_21 : decode cX5_key 21 = .ok (.goto 4, 3) := by decide +kernel
theorem dX5_key_24 : decode cX5_key 24 = .ok (.iconst (-1), 1) := by decide +kernel
theorem dX5_key_25 : decode cX5_key 25 = .ok (.ireturn, 1) := by decide +kernel
theorem dX5_packedWith_0 : decode cX5_packedWith 0 = .ok (.aload_n 0, 1) := by decide +kernel
theorem dX5_packedWith_1 : decode cX5_packedWith 1 = .ok (.getfield 7, 3) := by decide +kernel
theorem dX5_packedWith_4 : decode cX5_packedWith 4 = .ok (.iconst 0, 1) := by decide +kernel
theorem dX5_packedWith_5 : decode cX5_packedWith 5 = .ok (.aload_n 0, 1) := by decide +kernel
theorem dX5_packedWith_6 : decode cX5_packedWith 6 = .ok (.getfield 13, 3) := by decide +kernel
theorem dX5_packedWith_9 : decode cX5_packedWith 9 = .ok (.iconst 0, 1) := by decide +kernel
theorem dX5_packedWith_10 : decode cX5_packedWith 10 = .ok (.invokestatic 41, 3) := by decide +kernel
theorem dX5_packedWith_13 : decode cX5_packedWith 13 = .ok (.aload_n 0, 1) := by decide +kernel
theorem dX5_packedWith_14 : decode cX5_packedWith 14 = .ok (.getfield 7, 3) := by decide +kernel
theorem dX5_packedWith_17 : decode cX5_packedWith 17 = .ok (.iconst 0, 1) := by decide +kernel
theorem dX5_packedWith_18 : decode cX5_packedWith 18 = .ok (.iload_n 1, 1) := by decide +kernel
theorem dX5_packedWith_19 : decode cX5_packedWith 19 = .ok (.iastore, 1) := by decide +kernel
theorem dX5_packedWith_20 : decode cX5_packedWith 20 = .ok (.aload_n 0, 1) := by decide +kernel
theorem dX5_packedWith_21 : decode cX5_packedWith 21 = .ok (.invokevirtual 163, 3) := by decide +kernel
theorem dX5_packedWith_24 : decode cX5_packedWith 24 = .ok (.ifCond .ne 8, 3) := by decide +kernel
theorem dX5_packedWith_27 : decode cX5_packedWith 27 = .ok (.bipush (-5), 2) := by decide +kernel
theorem dX5_packedWith_29 : decode cX5_packedWith 29 = .ok (.goto 31, 3) := by decide +kernel
theorem dX5_packedWith_32 : decode cX5_packedWith 32 = .ok (.iload_n 2, 1) := by decide +kernel
theorem dX5_packedWith_33 : decode cX5_packedWith 33 = .ok (.ifCond .ne 10, 3) := by decide +kernel
theorem dX5_packedWith_36 : decode cX5_packedWith 36 = .ok (.aload_n 0, 1) := by decide +kernel
theorem dX5_packedWith_37 : decode cX5_packedWith 37 = .ok (.invokevirtual 182, 3) := by decide +kernel
theorem dX5_packedWith_40 : decode cX5_packedWith 40 = .ok (.goto 20, 3) := by decide +kernel
theorem dX5_packedWith_43 : decode cX5_packedWith 43 = .ok (.iload_n 2, 1) := by decide +kernel
theorem dX5_packedWith_44 : decode cX5_packedWith 44 = .ok (.iconst 1, 1) := by decide +kernel
theorem dX5_packedWith_45 : decode cX5_packedWith 45 = .ok (.if_icmp .ne 10, 3) := by decide +kernel
theorem dX5_packedWith_48 : decode cX5_packedWith 48 = .ok (.aload_n 0, 1) := by decide +kernel
theorem dX5_packedWith_49 : decode cX5_packedWith 49 = .ok (.invokevirtual 167, 3) := by decide +kernel
theorem dX5_packedWith_52 : decode cX5_packedWith 52 = .ok (.goto 8, 3) := by decide +kernel
theorem dX5_packedWith_55 : decode cX5_packedWith 55 = .ok (.aload_n 0, 1) := by decide +kernel
theorem dX5_packedWith_56 : decode cX5_packedWith 56 = .ok (.iconst 2, 1) := by decide +kernel
theorem dX5_packedWith_57 : decode cX5_packedWith 57 = .ok (.invokevirtual 176, 3) := by decide +kernel
theorem dX5_packedWith_60 : decode cX5_packedWith 60 = .ok (.istore_n 3, 1) := by decide +kernel
theorem dX5_packedWith_61 : decode cX5_packedWith 61 = .ok (.aload_n 0, 1) := by decide +kernel
theorem dX5_packedWith_62 : decode cX5_packedWith 62 = .ok (.getfield 13, 3) := by decide +kernel
theorem dX5_packedWith_65 : decode cX5_packedWith 65 = .ok (.iconst 0, 1) := by decide +kernel
theorem dX5_packedWith_66 : decode cX5_packedWith 66 = .ok (.aload_n 0, 1) := by decide +kernel
theorem dX5_packedWith_67 : decode cX5_packedWith 67 = .ok (.getfield 7, 3) := by decide +kernel
theorem dX5_packedWith_70 : decode cX5_packedWith 70 = .ok (.iconst 0, 1) := by decide +kernel
theorem dX5_packedWith_71 : decode cX5_packedWith 71 = .ok (.invokestatic 41, 3) := by decide +kernel
theorem dX5_packedWith_74 : decode cX5_packedWith 74 = .ok (.iload_n 3, 1) := by decide +kernel
theorem dX5_packedWith_75 : decode cX5_packedWith 75 = .ok (.ireturn, 1) := by decide +kernel
theorem dX5_ifPacked_0 : decode cX5_ifPacked 0 = .ok (.iload_n 1, 1) := by decide +kernel
theorem dX5_ifPacked_1 : decode cX5_ifPacked 1 = .ok (.iconst 0, 1) := by decide +kernel
theorem dX5_ifPacked_2 : decode cX5_ifPacked 2 = .ok (.bipush 16, 2) := by decide +kernel
theorem dX5_ifPacked_4 : decode cX5_ifPacked 4 = .ok (.invokestatic 130, 3) := by decide +kernel
theorem dX5_ifPacked_7 : decode cX5_ifPacked 7 = .ok (.ifCond .eq 21, 3) := by decide +kernel
theorem dX5_ifPacked_10 : decode cX5_ifPacked 10 = .ok (.iload_n 2, 1) := by decide +kernel
theorem dX5_ifPacked_11 : decode cX5_ifPacked 11 = .ok (.iconst 0, 1) := by decide +kernel
theorem dX5_ifPacked_12 : decode cX5_ifPacked 12 = .ok (.iconst 2, 1) := by decide +kernel
theorem dX5_ifPacked_13 : decode cX5_ifPacked 13 = .ok (.invokestatic 130, 3) := by decide +kernel
theorem dX5_ifPacked_16 : decode cX5_ifPacked 16 = .ok (.ifCond .eq 12, 3) := by decide +kernel
theorem dX5_ifPacked_19 : decode cX5_ifPacked 19 = .ok (.aload_n 0, 1) := by decide +kernel
theorem dX5_ifPacked_20 : decode cX5_ifPacked 20 = .ok (.iload_n 1, 1) := by decide +kernel
theorem dX5_ifPacked_21 : decode cX5_ifPacked 21 = .ok (.iload_n 2, 1) := by decide +kernel
theorem dX5_ifPacked_22 : decode cX5_ifPacked 22 = .ok (.invokevirtual 191, 3) := by decide +kernel
theorem dX5_ifPacked_25 : decode cX5_ifPacked 25 = .ok (.goto 5, 3) := by decide +kernel
theorem dX5_ifPacked_28 : decode cX5_ifPacked 28 = .ok (.bipush (-2), 2) := by decide +kernel
theorem dX5_ifPacked_30 : decode cX5_ifPacked 30 = .ok (.ireturn, 1) := by decide +kernel
theorem dX5_bestHead_0 : decode cX5_bestHead 0 = .ok (.bipush (-6), 2) := by decide +kernel
theorem dX5_bestHead_2 : decode cX5_bestHead 2 = .ok (.istore_n 1, 1) := by decide +kernel
theorem dX5_bestHead_3 : decode cX5_bestHead 3 = .ok (.iconst 0, 1) := by decide +kernel
theorem dX5_bestHead_4 : decode cX5_bestHead 4 = .ok (.istore_n 2, 1) := by decide +kernel
theorem dX5_bestHead_5 : decode cX5_bestHead 5 = .ok (.iconst 0, 1) := by decide +kernel
theorem dX5_bestHead_6 : decode cX5_bestHead 6 = .ok (.istore_n 3, 1) := by decide +kernel
theorem dX5_bestHead_7 : decode cX5_bestHead 7 = .ok (.iload_n 3, 1) := by decide +kernel
theorem dX5_bestHead_8 : decode cX5_bestHead 8 = .ok (.bipush 16, 2) := by decide +kernel
theorem dX5_bestHead_10 : decode cX5_bestHead 10 = .ok (.if_icmp .gt 75, 3) := by decide +kernel
theorem dX5_bestHead_13 : decode cX5_bestHead 13 = .ok (.aload_n 0, 1) := by decide +kernel
theorem dX5_bestHead_14 : decode cX5_bestHead 14 = .ok (.getfield 7, 3) := by decide +kernel
theorem dX5_bestHead_17 : decode cX5_bestHead 17 = .ok (.iconst 2, 1) := by decide +kernel
theorem dX5_bestHead_18 : decode cX5_bestHead 18 = .ok (.iaload, 1) := by decide +kernel
theorem dX5_bestHead_19 : decode cX5_bestHead 19 = .ok (.ifCond .le 66, 3) := by decide +kernel
theorem dX5_bestHead_22 : decode cX5_bestHead 22 = .ok (.aload_n 0, 1) := by decide +kernel
theorem dX5_bestHead_23 : decode cX5_bestHead 23 = .ok (.iload_n 3, 1) := by decide +kernel
theorem dX5_bestHead_24 : decode cX5_bestHead 24 = .ok (.iconst 0, 1) := by decide +kernel
theorem dX5_bestHead_25 : decode cX5_bestHead 25 = .ok (.invokevirtual 191, 3) := by decide +kernel
theorem dX5_bestHead_28 : decode cX5_bestHead 28 = .ok (.istore 4, 2) := by decide +kernel
theorem dX5_bestHead_30 : decode cX5_bestHead 30 = .ok (.iload 4, 2) := by decide +kernel
theorem dX5_bestHead_32 : decode cX5_bestHead 32 = .ok (.bipush (-5), 2) := by decide +kernel
theorem dX5_bestHead_34 : decode cX5_bestHead 34 = .ok (.if_icmp .eq 19, 3) := by decide +kernel
theorem dX5_bestHead_37 : decode cX5_bestHead 37 = .ok (.iload_n 1, 1) := by decide +kernel
theorem dX5_bestHead_38 : decode cX5_bestHead 38 = .ok (.bipush (-6), 2) := by decide +kernel
theorem dX5_bestHead_40 : decode cX5_bestHead 40 = .ok (.if_icmp .eq 9, 3) := by decide +kernel
theorem dX5_bestHead_43 : decode cX5_bestHead 43 = .ok (.iload 4, 2) := by decide +kernel
theorem dX5_bestHead_45 : decode cX5_bestHead 45 = .ok (.iload_n 2, 1) := by decide +kernel
theorem dX5_bestHead_46 : decode cX5_bestHead 46 = .ok (.if_icmp .ge 7, 3) := by decide +kernel
theorem dX5_bestHead_49 : decode cX5_bestHead 49 = .ok (.iconst 1, 1) := by decide +kernel
theorem dX5_bestHead_50 : decode cX5_bestHead 50 = .ok (.goto 4, 3) := by decide +kernel
theorem dX5_bestHead_53 : decode cX5_bestHead 53 = .ok (.iconst 0, 1) := by decide +kernel
theorem dX5_bestHead_54 : decode cX5_bestHead 54 = .ok (.istore 5, 2) := by decide +kernel
theorem dX5_bestHead_56 : decode cX5_bestHead 56 = .ok (.iload 5, 2) := by decide +kernel
theorem dX5_bestHead_58 : decode cX5_bestHead 58 = .ok (.ifCond .eq 7, 3) := by decide +kernel
theorem dX5_bestHead_61 : decode cX5_bestHead 61 = .ok (.iload_n 3, 1) := by decide +kernel
theorem dX5_bestHead_62 : decode cX5_bestHead 62 = .ok (.goto 4, 3) := by decide +kernel
theorem dX5_bestHead_65 : decode cX5_bestHead 65 = .ok (.iload_n 1, 1) := by decide +kernel
theorem dX5_bestHead_66 : decode cX5_bestHead 66 = .ok (.istore_n 1, 1) := by decide +kernel
theorem dX5_bestHead_67 : decode cX5_bestHead 67 = .ok (.iload 5, 2) := by decide +kernel
theorem dX5_bestHead_69 : decode cX5_bestHead 69 = .ok (.ifCond .eq 8, 3) := by decide +kernel
theorem dX5_bestHead_72 : decode cX5_bestHead 72 = .ok (.iload 4, 2) := by decide +kernel
theorem dX5_bestHead_74 : decode cX5_bestHead 74 = .ok (.goto 4, 3) := by decide +kernel
theorem dX5_bestHead_77 : decode cX5_bestHead 77 = .ok (.iload_n 2, 1) := by decide +kernel
theorem dX5_bestHead_78 : decode cX5_bestHead 78 = .ok (.istore_n 2, 1) := by decide +kernel
theorem dX5_bestHead_79 : decode cX5_bestHead 79 = .ok (.iinc 3 2, 3) := by decide +kernel
theorem dX5_bestHead_82 : decode cX5_bestHead 82 = .ok (.goto (-75), 3) := by decide +kernel
theorem dX5_bestHead_85 : decode cX5_bestHead 85 = .ok (.iload_n 1, 1) := by decide +kernel
theorem dX5_bestHead_86 : decode cX5_bestHead 86 = .ok (.ireturn, 1) := by decide +kernel
theorem dX5_most_0 : decode cX5_most 0 = .ok (.iload_n 1, 1) := by decide +kernel
theorem dX5_most_1 : decode cX5_most 1 = .ok (.iconst 0, 1) := by decide +kernel
theorem dX5_most_2 : decode cX5_most 2 = .ok (.bipush 99, 2) := by decide +kernel
theorem dX5_most_4 : decode cX5_most 4 = .ok (.invokestatic 130, 3) := by decide +kernel
theorem dX5_most_7 : decode cX5_most 7 = .ok (.ifCond .ne 6, 3) := by decide +kernel
theorem dX5_most_10 : decode cX5_most 10 = .ok (.bipush (-2), 2) := by decide +kernel
theorem dX5_most_12 : decode cX5_most 12 = .ok (.ireturn, 1) := by decide +kernel
theorem dX5_most_13 : decode cX5_most 13 = .ok (.bipush 40, 2) := by decide +kernel
theorem dX5_most_15 : decode cX5_most 15 = .ok (.istore_n 2, 1) := by decide +kernel
theorem dX5_most_16 : decode cX5_most 16 = .ok (.iload_n 2, 1) := by decide +kernel
theorem dX5_most_17 : decode cX5_most 17 = .ok (.ifCond .lt 52, 3) := by decide +kernel
theorem dX5_most_20 : decode cX5_most 20 = .ok (.aload_n 0, 1) := by decide +kernel
theorem dX5_most_21 : decode cX5_most 21 = .ok (.getfield 7, 3) := by decide +kernel
theorem dX5_most_24 : decode cX5_most 24 = .ok (.iconst 0, 1) := by decide +kernel
theorem dX5_most_25 : decode cX5_most 25 = .ok (.aload_n 0, 1) := by decide +kernel
theorem dX5_most_26 : decode cX5_most 26 = .ok (.getfield 13, 3) := by decide +kernel
theorem dX5_most_29 : decode cX5_most 29 = .ok (.iconst 0, 1) := by decide +kernel
theorem dX5_most_30 : decode cX5_most 30 = .ok (.invokestatic 41, 3) := by decide +kernel
theorem dX5_most_33 : decode cX5_most 33 = .ok (.aload_n 0, 1) := by decide +kernel
theorem dX5_most_34 : decode cX5_most 34 = .ok (.iload_n 2, 1) := by decide +kernel
theorem dX5_most_35 : decode cX5_most 35 = .ok (.putfield 85, 3) := by decide +kernel
theorem dX5_most_38 : decode cX5_most 38 = .ok (.aload_n 0, 1) := by decide +kernel
theorem dX5_most_39 : decode cX5_most 39 = .ok (.iload_n 1, 1) := by decide +kernel
theorem dX5_most_40 : decode cX5_most 40 = .ok (.invokevirtual 148, 3) := by decide +kernel
theorem dX5_most_43 : decode cX5_most 43 = .ok (.istore_n 3, 1) := by decide +kernel
theorem dX5_most_44 : decode cX5_most 44 = .ok (.aload_n 0, 1) := by decide +kernel
theorem dX5_most_45 : decode cX5_most 45 = .ok (.getfield 13, 3) := by decide +kernel
theorem dX5_most_48 : decode cX5_most 48 = .ok (.iconst 0, 1) := by decide +kernel
theorem dX5_most_49 : decode cX5_most 49 = .ok (.aload_n 0, 1) := by decide +kernel
theorem dX5_most_50 : decode cX5_most 50 = .ok (.getfield 7, 3) := by decide +kernel
theorem dX5_most_53 : decode cX5_most 53 = .ok (.iconst 0, 1) := by decide +kernel
theorem dX5_most_54 : decode cX5_most 54 = .ok (.invokestatic 41, 3) := by decide +kernel
theorem dX5_most_57 : decode cX5_most 57 = .ok (.iload_n 3, 1) := by decide +kernel
theorem dX5_most_58 : decode cX5_most 58 = .ok (.ifCond .eq 5, 3) := by decide +kernel
theorem dX5_most_61 : decode cX5_most 61 = .ok (.iload_n 2, 1) := by decide +kernel
theorem dX5_most_62 : decode cX5_most 62 = .ok (.ireturn, 1) := by decide +kernel
theorem dX5_most_63 : decode cX5_most 63 = .ok (.iinc 2 (-1), 3) := by decide +kernel
theorem dX5_most_66 : decode cX5_most 66 = .ok (.goto (-50), 3) := by decide +kernel
theorem dX5_most_69 : decode cX5_most 69 = .ok (.bipush (-6), 2) := by decide +kernel
theorem dX5_most_71 : decode cX5_most 71 = .ok (.ireturn, 1) := by decide +kernel
theorem dX5_put_0 : decode cX5_put 0 = .ok (.iconst 0, 1) := by decide +kernel
theorem dX5_put_1 : decode cX5_put 1 = .ok (.istore_n 3, 1) := by decide +kernel
theorem dX5_put_2 : decode cX5_put 2 = .ok (.lload_n 1, 1) := by decide +kernel
theorem dX5_put_3 : decode cX5_put 3 = .ok (.lstore 4, 2) := by decide +kernel
theorem dX5_put_5 : decode cX5_put 5 = .ok (.iconst 1, 1) := by decide +kernel
theorem dX5_put_6 : decode cX5_put 6 = .ok (.istore 6, 2) := by decide +kernel
theorem dX5_put_8 : decode cX5_put 8 = .ok (.iload_n 3, 1) := by decide +kernel
theorem dX5_put_9 : decode cX5_put 9 = .ok (.bipush 8, 2) := by decide +kernel
theorem dX5_put_11 : decode cX5_put 11 = .ok (.if_icmp .ge 56, 3) := by decide +kernel
theorem dX5_put_14 : decode cX5_put 14 = .ok (.lload 4, 2) := by decide +kernel
theorem dX5_put_16 : decode cX5_put 16 = .ok (.ldc2_w 194, 3) := by decide +kernel
theorem dX5_put_19 : decode cX5_put 19 = .ok (.land, 1) := by decide +kernel
theorem dX5_put_20 : decode cX5_put 20 = .ok (.lconst 0, 1) := by decide +kernel
theorem dX5_put_21 : decode cX5_put 21 = .ok (.lcmp, 1) := by decide +kernel
theorem dX5_put_22 : decode cX5_put 22 = .ok (.ifCond .eq 45, 3) := by decide +kernel
theorem dX5_put_25 : decode cX5_put 25 = .ok (.iload 6, 2) := by decide +kernel
theorem dX5_put_27 : decode cX5_put 27 = .ok (.ifCond .eq 24, 3) := by decide +kernel
theorem dX5_put_30 : decode cX5_put 30 = .ok (.lload 4, 2) := by decide +kernel
theorem dX5_put_32 : decode cX5_put 32 = .ok (.ldc2_w 194, 3) := by decide +kernel
theorem dX5_put_35 : decode cX5_put 35 = .ok (.land, 1) := by decide +kernel
theorem dX5_put_36 : decode cX5_put 36 = .ok (.l2i, 1) := by decide +kernel
theorem dX5_put_37 : decode cX5_put 37 = .ok (.bipush 33, 2) := by decide +kernel
theorem dX5_put_39 : decode cX5_put 39 = .ok (.bipush 126, 2) := by decide +kernel
theorem dX5_put_41 : decode cX5_put 41 = .ok (.invokestatic 130, 3) := by decide +kernel
theorem dX5_put_44 : decode cX5_put 44 = .ok (.ifCond .eq 7, 3) := by decide +kernel
theorem dX5_put_47 : decode cX5_put 47 = .ok (.iconst 1, 1) := by decide +kernel
theorem dX5_put_48 : decode cX5_put 48 = .ok (.goto 4, 3) := by decide +kernel
theorem dX5_put_51 : decode cX5_put 51 = .ok (.iconst 0, 1) := by decide +kernel
theorem dX5_put_52 : decode cX5_put 52 = .ok (.istore 6, 2) := by decide +kernel
theorem dX5_put_54 : decode cX5_put 54 = .ok (.lload 4, 2) := by decide +kernel
theorem dX5_put_56 : decode cX5_put 56 = .ok (.bipush 8, 2) := by decide +kernel
theorem dX5_put_58 : decode cX5_put 58 = .ok (.lushr, 1) := by decide +kernel
theorem dX5_put_59 : decode cX5_put 59 = .ok (.lstore 4, 2) := by decide +kernel
theorem dX5_put_61 : decode cX5_put 61 = .ok (.iinc 3 1, 3) := by decide +kernel
theorem dX5_put_64 : decode cX5_put 64 = .ok (.goto (-56), 3) := by decide +kernel
theorem dX5_put_67 : decode cX5_put 67 = .ok (.iload_n 3, 1) := by decide +kernel
theorem dX5_put_68 : decode cX5_put 68 = .ok (.ifCond .eq 15, 3) := by decide +kernel
theorem dX5_put_71 : decode cX5_put 71 = .ok (.iload 6, 2) := by decide +kernel
theorem dX5_put_73 : decode cX5_put 73 = .ok (.ifCond .eq 10, 3) := by decide +kernel
theorem dX5_put_76 : decode cX5_put 76 = .ok (.lload 4, 2) := by decide +kernel
theorem dX5_put_78 : decode cX5_put 78 = .ok (.lconst 0, 1) := by decide +kernel
theorem dX5_put_79 : decode cX5_put 79 = .ok (.lcmp, 1) := by decide +kernel
theorem dX5_put_80 : decode cX5_put 80 = .ok (.ifCond .eq 6, 3) := by decide +kernel
theorem dX5_put_83 : decode cX5_put 83 = .ok (.bipush (-2), 2) := by decide +kernel
theorem dX5_put_85 : decode cX5_put 85 = .ok (.ireturn, 1) := by decide +kernel
theorem dX5_put_86 : decode cX5_put 86 = .ok (.aload_n 0, 1) := by decide +kernel
theorem dX5_put_87 : decode cX5_put 87 = .ok (.getfield 145, 3) := by decide +kernel
theorem dX5_put_90 : decode cX5_put 90 = .ok (.iload_n 3, 1) := by decide +kernel
theorem dX5_put_91 : decode cX5_put 91 = .ok (.iadd, 1) := by decide +kernel
theorem dX5_put_92 : decode cX5_put 92 = .ok (.bipush 80, 2) := by decide +kernel
theorem dX5_put_94 : decode cX5_put 94 = .ok (.if_icmp .le 6, 3) := by decide +kernel
theorem dX5_put_97 : decode cX5_put 97 = .ok (.bipush (-4), 2) := by decide +kernel
theorem dX5_put_99 : decode cX5_put 99 = .ok (.ireturn, 1) := by decide +kernel
theorem dX5_put_100 : decode cX5_put 100 = .ok (.iload_n 3, 1) := by decide +kernel
theorem dX5_put_101 : decode cX5_put 101 = .ok (.iconst 1, 1) := by decide +kernel
theorem dX5_put_102 : decode cX5_put 102 = .ok (.isub, 1) := by decide +kernel
theorem dX5_put_103 : decode cX5_put 103 = .ok (.istore 7, 2) := by decide +kernel
theorem dX5_put_105 : decode cX5_put 105 = .ok (.iload 7, 2) := by decide +kernel
theorem dX5_put_107 : decode cX5_put 107 = .ok (.ifCond .lt 40, 3) := by decide +kernel
theorem dX5_put_110 : decode cX5_put 110 = .ok (.aload_n 0, 1) := by decide +kernel
theorem dX5_put_111 : decode cX5_put 111 = .ok (.getfield 28, 3) := by decide +kernel
theorem dX5_put_114 : decode cX5_put 114 = .ok (.aload_n 0, 1) := by decide +kernel
theorem dX5_put_115 : decode cX5_put 115 = .ok (.getfield 145, 3) := by decide +kernel
theorem dX5_put_118 : decode cX5_put 118 = .ok (.lload_n 1, 1) := by decide +kernel
theorem dX5_put_119 : decode cX5_put 119 = .ok (.bipush 8, 2) := by decide +kernel
theorem dX5_put_121 : decode cX5_put 121 = .ok (.iload 7, 2) := by decide +kernel
theorem dX5_put_123 : decode cX5_put 123 = .ok (.imul, 1) := by decide +kernel
theorem dX5_put_124 : decode cX5_put 124 = .ok (.lushr, 1) := by decide +kernel
theorem dX5_put_125 : decode cX5_put 125 = .ok (.ldc2_w 194, 3) := by decide +kernel
theorem dX5_put_128 : decode cX5_put 128 = .ok (.land, 1) := by decide +kernel
theorem dX5_put_129 : decode cX5_put 129 = .ok (.l2i, 1) := by decide +kernel
theorem dX5_put_130 : decode cX5_put 130 = .ok (.iastore, 1) := by decide +kernel
theorem dX5_put_131 : decode cX5_put 131 = .ok (.aload_n 0, 1) := by decide +kernel
theorem dX5_put_132 : decode cX5_put 132 = .ok (.dup, 1) := by decide +kernel
theorem dX5_put_133 : decode cX5_put 133 = .ok (.getfield 145, 3) := by decide +kernel
theorem dX5_put_136 : decode cX5_put 136 = .ok (.iconst 1, 1) := by decide +kernel
theorem dX5_put_137 : decode cX5_put 137 = .ok (.iadd, 1) := by decide +kernel
theorem dX5_put_138 : decode cX5_put 138 = .ok (.putfield 145, 3) := by decide +kernel
theorem dX5_put_141 : decode cX5_put 141 = .ok (.iinc 7 (-1), 3) := by decide +kernel
theorem dX5_put_144 : decode cX5_put 144 = .ok (.goto (-39), 3) := by decide +kernel
theorem dX5_put_147 : decode cX5_put 147 = .ok (.aload_n 0, 1) := by decide +kernel
theorem dX5_put_148 : decode cX5_put 148 = .ok (.getfield 145, 3) := by decide +kernel
theorem dX5_put_151 : decode cX5_put 151 = .ok (.ireturn, 1) := by decide +kernel
theorem dX5_wipe_0 : decode cX5_wipe 0 = .ok (.aload_n 0, 1) := by decide +kernel
theorem dX5_wipe_1 : decode cX5_wipe 1 = .ok (.getfield 145, 3) := by decide +kernel
theorem dX5_wipe_4 : decode cX5_wipe 4 = .ok (.istore_n 1, 1) := by decide +kernel
theorem dX5_wipe_5 : decode cX5_wipe 5 = .ok (.aload_n 0, 1) := by decide +kernel
theorem dX5_wipe_6 : decode cX5_wipe 6 = .ok (.iconst 0, 1) := by decide +kernel
theorem dX5_wipe_7 : decode cX5_wipe 7 = .ok (.putfield 145, 3) := by decide +kernel
theorem dX5_wipe_10 : decode cX5_wipe 10 = .ok (.iload_n 1, 1) := by decide +kernel
theorem dX5_wipe_11 : decode cX5_wipe 11 = .ok (.ireturn, 1) := by decide +kernel
theorem dX5_findFault_0 : decode cX5_findFault 0 = .ok (.bipush (-6), 2) := by decide +kernel
theorem dX5_findFault_2 : decode cX5_findFault 2 = .ok (.istore_n 1, 1) := by decide +kernel
theorem dX5_findFault_3 : decode cX5_findFault 3 = .ok (.bipush (-6), 2) := by decide +kernel
theorem dX5_findFault_5 : decode cX5_findFault 5 = .ok (.istore_n 2, 1) := by decide +kernel
theorem dX5_findFault_6 : decode cX5_findFault 6 = .ok (.iconst 0, 1) := by decide +kernel
theorem dX5_findFault_7 : decode cX5_findFault 7 = .ok (.istore_n 3, 1) := by decide +kernel
theorem dX5_findFault_8 : decode cX5_findFault 8 = .ok (.iload_n 3, 1) := by decide +kernel
theorem dX5_findFault_9 : decode cX5_findFault 9 = .ok (.aload_n 0, 1) := by decide +kernel
theorem dX5_findFault_10 : decode cX5_findFault 10 = .ok (.getfield 145, 3) := by decide +kernel
theorem dX5_findFault_13 : decode cX5_findFault 13 = .ok (.if_icmp .ge 233, 3) := by decide +kernel
theorem dX5_findFault_16 : decode cX5_findFault 16 = .ok (.aload_n 0, 1) := by decide +kernel
theorem dX5_findFault_17 : decode cX5_findFault 17 = .ok (.getfield 28, 3) := by decide +kernel
theorem dX5_findFault_20 : decode cX5_findFault 20 = .ok (.iload_n 3, 1) := by decide +kernel
theorem dX5_findFault_21 : decode cX5_findFault 21 = .ok (.iaload, 1) := by decide +kernel
theorem dX5_findFault_22 : decode cX5_findFault 22 = .ok (.istore 4, 2) := by decide +kernel
theorem dX5_findFault_24 : decode cX5_findFault 24 = .ok (.iload 4, 2) := by decide +kernel
theorem dX5_findFault_26 : decode cX5_findFault 26 = .ok (.bipush 48, 2) := by decide +kernel
theorem dX5_findFault_28 : decode cX5_findFault 28 = .ok (.bipush 57, 2) := by decide +kernel
theorem dX5_findFault_30 : decode cX5_findFault 30 = .ok (.invokestatic 130, 3) := by decide +kernel
theorem dX5_findFault_33 : decode cX5_findFault 33 = .ok (.ifCond .eq 29, 3) := by decide +kernel
theorem dX5_findFault_36 : decode cX5_findFault 36 = .ok (.iload_n 2, 1) := by decide +kernel
theorem dX5_findFault_37 : decode cX5_findFault 37 = .ok (.bipush (-6), 2) := by decide +kernel
theorem dX5_findFault_39 : decode cX5_findFault 39 = .ok (.if_icmp .ne 23, 3) := by decide +kernel
theorem dX5_findFault_42 : decode cX5_findFault 42 = .ok (.iload_n 1, 1) := by decide +kernel
theorem dX5_findFault_43 : decode cX5_findFault 43 = .ok (.bipush (-6), 2) := by decide +kernel
theorem dX5_findFault_45 : decode cX5_findFault 45 = .ok (.if_icmp .eq 13, 3) := by decide +kernel
theorem dX5_findFault_48 : decode cX5_findFault 48 = .ok (.iload_n 1, 1) := by decide +kernel
theorem dX5_findFault_49 : decode cX5_findFault 49 = .ok (.ifCond .le 13, 3) := by decide +kernel
theorem dX5_findFault_52 : decode cX5_findFault 52 = .ok (.iload_n 1, 1) := by decide +kernel
theorem dX5_findFault_53 : decode cX5_findFault 53 = .ok (.bipush 10, 2) := by decide +kernel
theorem dX5_findFault_55 : decode cX5_findFault 55 = .ok (.if_icmp .ge 7, 3) := by decide +kernel
theorem dX5_findFault_58 : decode cX5_findFault 58 = .ok (.iconst 1, 1) := by decide +kernel
theorem dX5_findFault_59 : decode cX5_findFault 59 = .ok (.goto 4, 3) := by decide +kernel
theorem dX5_findFault_62 : decode cX5_findFault 62 = .ok (.iconst 0, 1) := by decide +kernel
theorem dX5_findFault_63 : decode cX5_findFault 63 = .ok (.istore 5, 2) := by decide +kernel
theorem dX5_findFault_65 : decode cX5_findFault 65 = .ok (.iload 4, 2) := by decide +kernel
theorem dX5_findFault_67 : decode cX5_findFault 67 = .ok (.bipush 61, 2) := by decide +kernel
theorem dX5_findFault_69 : decode cX5_findFault 69 = .ok (.if_icmp .ne 19, 3) := by decide +kernel
theorem dX5_findFault_72 : decode cX5_findFault 72 = .ok (.iload_n 2, 1) := by decide +kernel
theorem dX5_findFault_73 : decode cX5_findFault 73 = .ok (.bipush (-6), 2) := by decide +kernel
theorem dX5_findFault_75 : decode cX5_findFault 75 = .ok (.if_icmp .ne 13, 3) := by decide +kernel
theorem dX5_findFault_78 : decode cX5_findFault 78 = .ok (.iload_n 1, 1) := by decide +kernel
theorem dX5_findFault_79 : decode cX5_findFault 79 = .ok (.bipush (-6), 2) := by decide +kernel
theorem dX5_findFault_81 : decode cX5_findFault 81 = .ok (.if_icmp .eq 7, 3) := by decide +kernel
theorem dX5_findFault_84 : decode cX5_findFault 84 = .ok (.iconst 1, 1) := by decide +kernel
theorem dX5_findFault_85 : decode cX5_findFault 85 = .ok (.goto 4, 3) := by decide +kernel
theorem dX5_findFault_88 : decode cX5_findFault 88 = .ok (.iconst 0, 1) := by decide +kernel
theorem dX5_findFault_89 : decode cX5_findFault 89 = .ok (.istore 6, 2) := by decide +kernel
theorem dX5_findFault_91 : decode cX5_findFault 91 = .ok (.iload 4, 2) := by decide +kernel
theorem dX5_findFault_93 : decode cX5_findFault 93 = .ok (.bipush 97, 2) := by decide +kernel
theorem dX5_findFault_95 : decode cX5_findFault 95 = .ok (.bipush 122, 2) := by decide +kernel
theorem dX5_findFault_97 : decode cX5_findFault 97 = .ok (.invokestatic 130, 3) := by decide +kernel
theorem dX5_findFault_100 : decode cX5_findFault 100 = .ok (.ifCond .eq 19, 3) := by decide +kernel
theorem dX5_findFault_103 : decode cX5_findFault 103 = .ok (.iload_n 2, 1) := by decide +kernel
theorem dX5_findFault_104 : decode cX5_findFault 104 = .ok (.bipush (-6), 2) := by decide +kernel
theorem dX5_findFault_106 : decode cX5_findFault 106 = .ok (.if_icmp .eq 13, 3) := by decide +kernel
theorem dX5_findFault_109 : decode cX5_findFault 109 = .ok (.iload_n 2, 1) := by decide +kernel
theorem dX5_findFault_110 : decode cX5_findFault 110 = .ok (.bipush 40, 2) := by decide +kernel
theorem dX5_findFault_112 : decode cX5_findFault 112 = .ok (.if_icmp .ge 7, 3) := by decide +kernel
theorem dX5_findFault_115 : decode cX5_findFault 115 = .ok (.iconst 1, 1) := by decide +kernel
theorem dX5_findFault_116 : decode cX5_findFault 116 = .ok (.goto 4, 3) := by decide +kernel
theorem dX5_findFault_119 : decode cX5_findFault 119 = .ok (.iconst 0, 1) := by decide +kernel
theorem dX5_findFault_120 : decode cX5_findFault 120 = .ok (.istore 7, 2) := by decide +kernel
theorem dX5_findFault_122 : decode cX5_findFault 122 = .ok (.iload 4, 2) := by decide +kernel
theorem dX5_findFault_124 : decode cX5_findFault 124 = .ok (.bipush 59, 2) := by decide +kernel
theorem dX5_findFault_126 : decode cX5_findFault 126 = .ok (.if_icmp .ne 13, 3) := by decide +kernel
theorem dX5_findFault_129 : decode cX5_findFault 129 = .ok (.iload_n 2, 1) := by decide +kernel
theorem dX5_findFault_130 : decode cX5_findFault 130 = .ok (.bipush (-6), 2) := by decide +kernel
theorem dX5_findFault_132 : decode cX5_findFault 132 = .ok (.if_icmp .eq 7, 3) := by decide +kernel
theorem dX5_findFault_135 : decode cX5_findFault 135 = .ok (.iconst 1, 1) := by decide +kernel
theorem dX5_findFault_136 : decode cX5_findFault 136 = .ok (.goto 4, 3) := by decide +kernel
theorem dX5_findFault_139 : decode cX5_findFault 139 = .ok (.iconst 0, 1) := by decide +kernel
theorem dX5_findFault_140 : decode cX5_findFault 140 = .ok (.istore 8, 2) := by decide +kernel
theorem dX5_findFault_142 : decode cX5_findFault 142 = .ok (.iload 5, 2) := by decide +kernel
theorem dX5_findFault_144 : decode cX5_findFault 144 = .ok (.ifCond .ne 20, 3) := by decide +kernel
theorem dX5_findFault_147 : decode cX5_findFault 147 = .ok (.iload 6, 2) := by decide +kernel
theorem dX5_findFault_149 : decode cX5_findFault 149 = .ok (.ifCond .ne 15, 3) := by decide +kernel
theorem dX5_findFault_152 : decode cX5_findFault 152 = .ok (.iload 7, 2) := by decide +kernel
theorem dX5_findFault_154 : decode cX5_findFault 154 = .ok (.ifCond .ne 10, 3) := by decide +kernel
theorem dX5_findFault_157 : decode cX5_findFault 157 = .ok (.iload 8, 2) := by decide +kernel
theorem dX5_findFault_159 : decode cX5_findFault 159 = .ok (.ifCond .ne 5, 3) := by decide +kernel
theorem dX5_findFault_162 : decode cX5_findFault 162 = .ok (.iload_n 3, 1) := by decide +kernel
theorem dX5_findFault_163 : decode cX5_findFault 163 = .ok (.ireturn, 1) := by decide +kernel
theorem dX5_findFault_164 : decode cX5_findFault 164 = .ok (.iload 8, 2) := by decide +kernel
theorem dX5_findFault_166 : decode cX5_findFault 166 = .ok (.ifCond .eq 8, 3) := by decide +kernel
theorem dX5_findFault_169 : decode cX5_findFault 169 = .ok (.bipush (-6), 2) := by decide +kernel
theorem dX5_findFault_171 : decode cX5_findFault 171 = .ok (.goto 36, 3) := by decide +kernel
theorem dX5_findFault_174 : decode cX5_findFault 174 = .ok (.iload 5, 2) := by decide +kernel
theorem dX5_findFault_176 : decode cX5_findFault 176 = .ok (.ifCond .ne 7, 3) := by decide +kernel
theorem dX5_findFault_179 : decode cX5_findFault 179 = .ok (.iload_n 1, 1) := by decide +kernel
theorem dX5_findFault_180 : decode cX5_findFault 180 = .ok (.goto 27, 3) := by decide +kernel
theorem dX5_findFault_183 : decode cX5_findFault 183 = .ok (.iload_n 1, 1) := by decide +kernel
theorem dX5_findFault_184 : decode cX5_findFault 184 = .ok (.bipush (-6), 2) := by decide +kernel
theorem dX5_findFault_186 : decode cX5_findFault 186 = .ok (.if_icmp .ne 11, 3) := by decide +kernel
theorem dX5_findFault_189 : decode cX5_findFault 189 = .ok (.iload 4, 2) := by decide +kernel
theorem dX5_findFault_191 : decode cX5_findFault 191 = .ok (.bipush 48, 2) := by decide +kernel
theorem dX5_findFault_193 : decode cX5_findFault 193 = .ok (.isub, 1) := by decide +kernel
theorem dX5_findFault_194 : decode cX5_findFault 194 = .ok (.goto 13, 3) := by decide +kernel
theorem dX5_findFault_197 : decode cX5_findFault 197 = .ok (.bipush 10, 2) := by decide +kernel
theorem dX5_findFault_199 : decode cX5_findFault 199 = .ok (.iload_n 1, 1) := by decide +kernel
theorem dX5_findFault_200 : decode cX5_findFault 200 = .ok (.imul, 1) := by decide +kernel
theorem dX5_findFault_201 : decode cX5_findFault 201 = .ok (.iload 4, 2) := by decide +kernel
theorem dX5_findFault_203 : decode cX5_findFault 203 = .ok (.iadd, 1) := by decide +kernel
theorem dX5_findFault_204 : decode cX5_findFault 204 = .ok (.bipush 48, 2) := by decide +kernel
theorem dX5_findFault_206 : decode cX5_findFault 206 = .ok (.isub, 1) := by decide +kernel
theorem dX5_findFault_207 : decode cX5_findFault 207 = .ok (.istore_n 1, 1) := by decide +kernel
theorem dX5_findFault_208 : decode cX5_findFault 208 = .ok (.iload 8, 2) := by decide +kernel
theorem dX5_findFault_210 : decode cX5_findFault 210 = .ok (.ifCond .eq 8, 3) := by decide +kernel
theorem dX5_findFault_213 : decode cX5_findFault 213 = .ok (.bipush (-6), 2) := by decide +kernel
theorem dX5_findFault_215 : decode cX5_findFault 215 = .ok (.goto 24, 3) := by decide +kernel
theorem dX5_findFault_218 : decode cX5_findFault 218 = .ok (.iload 6, 2) := by decide +kernel
theorem dX5_findFault_220 : decode cX5_findFault 220 = .ok (.ifCond .eq 7, 3) := by decide +kernel
theorem dX5_findFault_223 : decode cX5_findFault 223 = .ok (.iconst 0, 1) := by decide +kernel
theorem dX5_findFault_224 : decode cX5_findFault 224 = .ok (.goto 15, 3) := by decide +kernel
theorem dX5_findFault_227 : decode cX5_findFault 227 = .ok (.iload 7, 2) := by decide +kernel
theorem dX5_findFault_229 : decode cX5_findFault 229 = .ok (.ifCond .eq 9, 3) := by decide +kernel
theorem dX5_findFault_232 : decode cX5_findFault 232 = .ok (.iload_n 2, 1) := by decide +kernel
theorem dX5_findFault_233 : decode cX5_findFault 233 = .ok (.iconst 1, 1) := by decide +kernel
theorem dX5_findFault_234 : decode cX5_findFault 234 = .ok (.iadd, 1) := by decide +kernel
theorem dX5_findFault_235 : decode cX5_findFault 235 = .ok (.goto 4, 3) := by decide +kernel
theorem dX5_findFault_238 : decode cX5_findFault 238 = .ok (.iload_n 2, 1) := by decide +kernel
theorem dX5_findFault_239 : decode cX5_findFault 239 = .ok (.istore_n 2, 1) := by decide +kernel
theorem dX5_findFault_240 : decode cX5_findFault 240 = .ok (.iinc 3 1, 3) := by decide +kernel
theorem dX5_findFault_243 : decode cX5_findFault 243 = .ok (.goto (-235), 3) := by decide +kernel
theorem dX5_findFault_246 : decode cX5_findFault 246 = .ok (.iload_n 2, 1) := by decide +kernel
theorem dX5_findFault_247 : decode cX5_findFault 247 = .ok (.bipush (-6), 2) := by decide +kernel
theorem dX5_findFault_249 : decode cX5_findFault 249 = .ok (.if_icmp .ne 10, 3) := by decide +kernel
theorem dX5_findFault_252 : decode cX5_findFault 252 = .ok (.aload_n 0, 1) := by decide +kernel
theorem dX5_findFault_253 : decode cX5_findFault 253 = .ok (.getfield 145, 3) := by decide +kernel
theorem dX5_findFault_256 : decode cX5_findFault 256 = .ok (.goto 5, 3) := by decide +kernel
theorem dX5_findFault_259 : decode cX5_findFault 259 = .ok (.bipush (-6), 2) := by decide +kernel
theorem dX5_findFault_261 : decode cX5_findFault 261 = .ok (.ireturn, 1) := by decide +kernel
theorem dX5_fault_0 : decode cX5_fault 0 = .ok (.aload_n 0, 1) := by decide +kernel
theorem dX5_fault_1 : decode cX5_fault 1 = .ok (.invokevirtual 142, 3) := by decide +kernel
theorem dX5_fault_4 : decode cX5_fault 4 = .ok (.ireturn, 1) := by decide +kernel
theorem dX5_undo_0 : decode cX5_undo 0 = .ok (.aload_n 0, 1) := by decide +kernel
theorem dX5_undo_1 : decode cX5_undo 1 = .ok (.getfield 37, 3) := by decide +kernel
theorem dX5_undo_4 : decode cX5_undo 4 = .ok (.ifCond .ne 6, 3) := by decide +kernel
theorem dX5_undo_7 : decode cX5_undo 7 = .ok (.bipush (-5), 2) := by decide +kernel
theorem dX5_undo_9 : decode cX5_undo 9 = .ok (.ireturn, 1) := by decide +kernel
theorem dX5_undo_10 : decode cX5_undo 10 = .ok (.aload_n 0, 1) := by decide +kernel
theorem dX5_undo_11 : decode cX5_undo 11 = .ok (.dup, 1) := by decide +kernel
theorem dX5_undo_12 : decode cX5_undo 12 = .ok (.getfield 37, 3) := by decide +kernel
theorem dX5_undo_15 : decode cX5_undo 15 = .ok (.iconst 1, 1) := by decide +kernel
theorem dX5_undo_16 : decode cX5_undo 16 = .ok (.isub, 1) := by decide +kernel
theorem dX5_undo_17 : decode cX5_undo 17 = .ok (.putfield 37, 3) := by decide +kernel
theorem dX5_undo_20 : decode cX5_undo 20 = .ok (.aload_n 0, 1) := by decide +kernel
theorem dX5_undo_21 : decode cX5_undo 21 = .ok (.getfield 19, 3) := by decide +kernel
theorem dX5_undo_24 : decode cX5_undo 24 = .ok (.aload_n 0, 1) := by decide +kernel
theorem dX5_undo_25 : decode cX5_undo 25 = .ok (.getfield 37, 3) := by decide +kernel
theorem dX5_undo_28 : decode cX5_undo 28 = .ok (.sipush 763, 3) := by decide +kernel
theorem dX5_undo_31 : decode cX5_undo 31 = .ok (.imul, 1) := by decide +kernel
theorem dX5_undo_32 : decode cX5_undo 32 = .ok (.aload_n 0, 1) := by decide +kernel
theorem dX5_undo_33 : decode cX5_undo 33 = .ok (.getfield 7, 3) := by decide +kernel
theorem dX5_undo_36 : decode cX5_undo 36 = .ok (.iconst 0, 1) := by decide +kernel
theorem dX5_undo_37 : decode cX5_undo 37 = .ok (.invokestatic 41, 3) := by decide +kernel
theorem dX5_undo_40 : decode cX5_undo 40 = .ok (.aload_n 0, 1) := by decide +kernel
theorem dX5_undo_41 : decode cX5_undo 41 = .ok (.getfield 37, 3) := by decide +kernel
theorem dX5_undo_44 : decode cX5_undo 44 = .ok (.ireturn, 1) := by decide +kernel
theorem dX5_save_0 : decode cX5_save 0 = .ok (.iload_n 1, 1) := by decide +kernel
theorem dX5_save_1 : decode cX5_save 1 = .ok (.iconst 0, 1) := by decide +kernel
theorem dX5_save_2 : decode cX5_save 2 = .ok (.iconst 1, 1) := by decide +kernel
theorem dX5_save_3 : decode cX5_save 3 = .ok (.invokestatic 130, 3) := by decide +kernel
theorem dX5_save_6 : decode cX5_save 6 = .ok (.ifCond .ne 6, 3) := by decide +kernel
theorem dX5_save_9 : decode cX5_save 9 = .ok (.bipush (-2), 2) := by decide +kernel
theorem dX5_save_11 : decode cX5_save 11 = .ok (.ireturn, 1) := by decide +kernel
theorem dX5_save_12 : decode cX5_save 12 = .ok (.aload_n 0, 1) := by decide +kernel
theorem dX5_save_13 : decode cX5_save 13 = .ok (.getfield 7, 3) := by decide +kernel
theorem dX5_save_16 : decode cX5_save 16 = .ok (.iconst 0, 1) := by decide +kernel
theorem dX5_save_17 : decode cX5_save 17 = .ok (.aload_n 0, 1) := by decide +kernel
theorem dX5_save_18 : decode cX5_save 18 = .ok (.getfield 22, 3) := by decide +kernel
theorem dX5_save_21 : decode cX5_save 21 = .ok (.sipush 763, 3) := by decide +kernel
theorem dX5_save_24 : decode cX5_save 24 = .ok (.iload_n 1, 1) := by decide +kernel
theorem dX5_save_25 : decode cX5_save 25 = .ok (.imul, 1) := by decide +kernel
theorem dX5_save_26 : decode cX5_save 26 = .ok (.invokestatic 41, 3) := by decide +kernel
theorem dX5_save_29 : decode cX5_save 29 = .ok (.aload_n 0, 1) := by decide +kernel
theorem dX5_save_30 : decode cX5_save 30 = .ok (.getfield 25, 3) := by decide +kernel
theorem dX5_save_33 : decode cX5_save 33 = .ok (.iload_n 1, 1) := by decide +kernel
theorem dX5_save_34 : decode cX5_save 34 = .ok (.iconst 1, 1) := by decide +kernel
theorem dX5_save_35 : decode cX5_save 35 = .ok (.iastore, 1) := by decide +kernel
theorem dX5_save_36 : decode cX5_save 36 = .ok (.aload_n 0, 1) := by decide +kernel
theorem dX5_save_37 : decode cX5_save 37 = .ok (.getfield 7, 3) := by decide +kernel
theorem dX5_save_40 : decode cX5_save 40 = .ok (.iconst 2, 1) := by decide +kernel
theorem dX5_save_41 : decode cX5_save 41 = .ok (.iaload, 1) := by decide +kernel
theorem dX5_save_42 : decode cX5_save 42 = .ok (.ireturn, 1) := by decide +kernel
theorem dX5_restore_0 : decode cX5_restore 0 = .ok (.iload_n 1, 1) := by decide +kernel
theorem dX5_restore_1 : decode cX5_restore 1 = .ok (.iconst 0, 1) := by decide +kernel
theorem dX5_restore_2 : decode cX5_restore 2 = .ok (.iconst 1, 1) := by decide +kernel
theorem dX5_restore_3 : decode cX5_restore 3 = .ok (.invokestatic 130, 3) := by decide +kernel
theorem dX5_restore_6 : decode cX5_restore 6 = .ok (.ifCond .ne 6, 3) := by decide +kernel
theorem dX5_restore_9 : decode cX5_restore 9 = .ok (.bipush (-2), 2) := by decide +kernel
theorem dX5_restore_11 : decode cX5_restore 11 = .ok (.ireturn, 1) := by decide +kernel
theorem dX5_restore_12 : decode cX5_restore 12 = .ok (.aload_n 0, 1) := by decide +kernel
theorem dX5_restore_13 : decode cX5_restore 13 = .ok (.getfield 25, 3) := by decide +kernel
theorem dX5_restore_16 : decode cX5_restore 16 = .ok (.iload_n 1, 1) := by decide +kernel
theorem dX5_restore_17 : decode cX5_restore 17 = .ok (.iaload, 1) := by decide +kernel
theorem dX5_restore_18 : decode cX5_restore 18 = .ok (.ifCond .ne 6, 3) := by decide +kernel
theorem dX5_restore_21 : decode cX5_restore 21 = .ok (.bipush (-5), 2) := by decide +kernel
theorem dX5_restore_23 : decode cX5_restore 23 = .ok (.ireturn, 1) := by decide +kernel
theorem dX5_restore_24 : decode cX5_restore 24 = .ok (.aload_n 0, 1) := by decide +kernel
theorem dX5_restore_25 : decode cX5_restore 25 = .ok (.aload_n 0, 1) := by decide +kernel
theorem dX5_restore_26 : decode cX5_restore 26 = .ok (.getfield 7, 3) := by decide +kernel
theorem dX5_restore_29 : decode cX5_restore 29 = .ok (.invokevirtual 138, 3) := by decide +kernel
theorem dX5_restore_32 : decode cX5_restore 32 = .ok (.aload_n 0, 1) := by decide +kernel
theorem dX5_restore_33 : decode cX5_restore 33 = .ok (.getfield 22, 3) := by decide +kernel
theorem dX5_restore_36 : decode cX5_restore 36 = .ok (.sipush 763, 3) := by decide +kernel
theorem dX5_restore_39 : decode cX5_restore 39 = .ok (.iload_n 1, 1) := by decide +kernel
theorem dX5_restore_40 : decode cX5_restore 40 = .ok (.imul, 1) := by decide +kernel
theorem dX5_restore_41 : decode cX5_restore 41 = .ok (.aload_n 0, 1) := by decide +kernel
theorem dX5_restore_42 : decode cX5_restore 42 = .ok (.getfield 7, 3) := by decide +kernel
theorem dX5_restore_45 : decode cX5_restore 45 = .ok (.iconst 0, 1) := by decide +kernel
theorem dX5_restore_46 : decode cX5_restore 46 = .ok (.invokestatic 41, 3) := by decide +kernel
theorem dX5_restore_49 : decode cX5_restore 49 = .ok (.aload_n 0, 1) := by decide +kernel
theorem dX5_restore_50 : decode cX5_restore 50 = .ok (.getfield 7, 3) := by decide +kernel
theorem dX5_restore_53 : decode cX5_restore 53 = .ok (.iconst 2, 1) := by decide +kernel
theorem dX5_restore_54 : decode cX5_restore 54 = .ok (.iaload, 1) := by decide +kernel
theorem dX5_restore_55 : decode cX5_restore 55 = .ok (.ireturn, 1) := by decide +kernel
theorem dJ9_floorMod_7cf53_0 : decode cJ9_floorMod_7cf53 0 = .ok (.iload_n 0, 1) := by decide +kernel
theorem dJ9_floorMod_7cf53_1 : decode cJ9_floorMod_7cf53 1 = .ok (.iload_n 1, 1) := by decide +kernel
theorem dJ9_floorMod_7cf53_2 : decode cJ9_floorMod_7cf53 2 = .ok (.irem, 1) := by decide +kernel
theorem dJ9_floorMod_7cf53_3 : decode cJ9_floorMod_7cf53 3 = .ok (.istore_n 2, 1) := by decide +kernel
theorem dJ9_floorMod_7cf53_4 : decode cJ9_floorMod_7cf53 4 = .ok (.iload_n 0, 1) := by decide +kernel
theorem dJ9_floorMod_7cf53_5 : decode cJ9_floorMod_7cf53 5 = .ok (.iload_n 1, 1) := by decide +kernel
theorem dJ9_floorMod_7cf53_6 : decode cJ9_floorMod_7cf53 6 = .ok (.ixor, 1) := by decide +kernel
theorem dJ9_floorMod_7cf53_7 : decode cJ9_floorMod_7cf53 7 = .ok (.ifCond .ge 11, 3) := by decide +kernel
theorem dJ9_floorMod_7cf53_10 : decode cJ9_floorMod_7cf53 10 = .ok (.iload_n 2, 1) := by decide +kernel
theorem dJ9_floorMod_7cf53_11 : decode cJ9_floorMod_7cf53 11 = .ok (.ifCond .eq 7, 3) := by decide +kernel
theorem dJ9_floorMod_7cf53_14 : decode cJ9_floorMod_7cf53 14 = .ok (.iload_n 2, 1) := by decide +kernel
theorem dJ9_floorMod_7cf53_15 : decode cJ9_floorMod_7cf53 15 = .ok (.iload_n 1, 1) := by decide +kernel
theorem dJ9_floorMod_7cf53_16 : decode cJ9_floorMod_7cf53 16 = .ok (.iadd, 1) := by decide +kernel
theorem dJ9_floorMod_7cf53_17 : decode cJ9_floorMod_7cf53 17 = .ok (.ireturn, 1) := by decide +kernel
theorem dJ9_floorMod_7cf53_18 : decode cJ9_floorMod_7cf53 18 = .ok (.iload_n 2, 1) := by decide +kernel
theorem dJ9_floorMod_7cf53_19 : decode cJ9_floorMod_7cf53 19 = .ok (.ireturn, 1) := by decide +kernel
theorem dJ9_max_7cf53_0 : decode cJ9_max_7cf53 0 = .ok (.iload_n 0, 1) := by decide +kernel
theorem dJ9_max_7cf53_1 : decode cJ9_max_7cf53 1 = .ok (.iload_n 1, 1) := by decide +kernel
theorem dJ9_max_7cf53_2 : decode cJ9_max_7cf53 2 = .ok (.if_icmp .lt 7, 3) := by decide +kernel
theorem dJ9_max_7cf53_5 : decode cJ9_max_7cf53 5 = .ok (.iload_n 0, 1) := by decide +kernel
theorem dJ9_max_7cf53_6 : decode cJ9_max_7cf53 6 = .ok (.goto 4, 3) := by decide +kernel
theorem dJ9_max_7cf53_9 : decode cJ9_max_7cf53 9 = .ok (.iload_n 1, 1) := by decide +kernel
theorem dJ9_max_7cf53_10 : decode cJ9_max_7cf53 10 = .ok (.ireturn, 1) := by decide +kernel
theorem dJ9_min_7cf53_0 : decode cJ9_min_7cf53 0 = .ok (.iload_n 0, 1) := by decide +kernel
theorem dJ9_min_7cf53_1 : decode cJ9_min_7cf53 1 = .ok (.iload_n 1, 1) := by decide +kernel
theorem dJ9_min_7cf53_2 : decode cJ9_min_7cf53 2 = .ok (.if_icmp .gt 7, 3) := by decide +kernel
theorem dJ9_min_7cf53_5 : decode cJ9_min_7cf53 5 = .ok (.iload_n 0, 1) := by decide +kernel
theorem dJ9_min_7cf53_6 : decode cJ9_min_7cf53 6 = .ok (.goto 4, 3) := by decide +kernel
theorem dJ9_min_7cf53_9 : decode cJ9_min_7cf53 9 = .ok (.iload_n 1, 1) := by decide +kernel
theorem dJ9_min_7cf53_10 : decode cJ9_min_7cf53 10 = .ok (.ireturn, 1) := by decide +kernel
theorem dJ7_fill_53178_0 : decode cJ7_fill_53178 0 = .ok (.iconst 0, 1) := by decide +kernel
theorem dJ7_fill_53178_1 : decode cJ7_fill_53178 1 = .ok (.istore_n 2, 1) := by decide +kernel
theorem dJ7_fill_53178_2 : decode cJ7_fill_53178 2 = .ok (.aload_n 0, 1) := by decide +kernel
theorem dJ7_fill_53178_3 : decode cJ7_fill_53178 3 = .ok (.arraylength, 1) := by decide +kernel
theorem dJ7_fill_53178_4 : decode cJ7_fill_53178 4 = .ok (.istore_n 3, 1) := by decide +kernel
theorem dJ7_fill_53178_5 : decode cJ7_fill_53178 5 = .ok (.iload_n 2, 1) := by decide +kernel
theorem dJ7_fill_53178_6 : decode cJ7_fill_53178 6 = .ok (.iload_n 3, 1) := by decide +kernel
theorem dJ7_fill_53178_7 : decode cJ7_fill_53178 7 = .ok (.if_icmp .ge 13, 3) := by decide +kernel
theorem dJ7_fill_53178_10 : decode cJ7_fill_53178 10 = .ok (.aload_n 0, 1) := by decide +kernel
theorem dJ7_fill_53178_11 : decode cJ7_fill_53178 11 = .ok (.iload_n 2, 1) := by decide +kernel
theorem dJ7_fill_53178_12 : decode cJ7_fill_53178 12 = .ok (.iload_n 1, 1) := by decide +kernel
theorem dJ7_fill_53178_13 : decode cJ7_fill_53178 13 = .ok (.iastore, 1) := by decide +kernel
theorem dJ7_fill_53178_14 : decode cJ7_fill_53178 14 = .ok (.iinc 2 1, 3) := by decide +kernel
theorem dJ7_fill_53178_17 : decode cJ7_fill_53178 17 = .ok (.goto (-12), 3) := by decide +kernel
theorem dJ7_fill_53178_20 : decode cJ7_fill_53178 20 = .ok (.return_, 1) := by decide +kernel
theorem dL_law_0 : decode cL_law 0 = .ok (.new 7, 3) := by decide +kernel
theorem dL_law_3 : decode cL_law 3 = .ok (.dup, 1) := by decide +kernel
theorem dL_law_4 : decode cL_law 4 = .ok (.invokespecial 9, 3) := by decide +kernel
theorem dL_law_7 : decode cL_law 7 = .ok (.astore_n 1, 1) := by decide +kernel
theorem dL_law_8 : decode cL_law 8 = .ok (.new 10, 3) := by decide +kernel
theorem dL_law_11 : decode cL_law 11 = .ok (.dup, 1) := by decide +kernel
theorem dL_law_12 : decode cL_law 12 = .ok (.invokespecial 12, 3) := by decide +kernel
theorem dL_law_15 : decode cL_law 15 = .ok (.astore_n 2, 1) := by decide +kernel
theorem dL_law_16 : decode cL_law 16 = .ok (.iconst 0, 1) := by decide +kernel
theorem dL_law_17 : decode cL_law 17 = .ok (.istore_n 3, 1) := by decide +kernel
theorem dL_law_18 : decode cL_law 18 = .ok (.iload_n 3, 1) := by decide +kernel
theorem dL_law_19 : decode cL_law 19 = .ok (.aload_n 0, 1) := by decide +kernel
theorem dL_law_20 : decode cL_law 20 = .ok (.arraylength, 1) := by decide +kernel
theorem dL_law_21 : decode cL_law 21 = .ok (.iconst 4, 1) := by decide +kernel
theorem dL_law_22 : decode cL_law 22 = .ok (.isub, 1) := by decide +kernel
theorem dL_law_23 : decode cL_law 23 = .ok (.if_icmp .gt 668, 3) := by decide +kernel
theorem dL_law_26 : decode cL_law 26 = .ok (.aload_n 0, 1) := by decide +kernel
theorem dL_law_27 : decode cL_law 27 = .ok (.iload_n 3, 1) := by decide +kernel
theorem dL_law_28 : decode cL_law 28 = .ok (.iaload, 1) := by decide +kernel
theorem dL_law_29 : decode cL_law 29 = .ok (.bipush 31, 2) := by decide +kernel
theorem dL_law_31 : decode cL_law 31 = .ok (.iand, 1) := by decide +kernel
theorem dL_law_32 : decode cL_law 32 = .ok (.tableswitch 653 0 20 #[100, 133, 146, 179, 202, 215, 248, 281, 324, 357, 400, 423, 446, 479, 492, 515, 568, 581, 594, 607, 630], 100) := by decide +kernel
theorem dL_law_132 : decode cL_law 132 = .ok (.aload_n 1, 1) := by decide +kernel
theorem dL_law_133 : decode cL_law 133 = .ok (.aload_n 0, 1) := by decide +kernel
theorem dL_law_134 : decode cL_law 134 = .ok (.iload_n 3, 1) := by decide +kernel
theorem dL_law_135 : decode cL_law 135 = .ok (.iconst 1, 1) := by decide +kernel
theorem dL_law_136 : decode cL_law 136 = .ok (.iadd, 1) := by decide +kernel
theorem dL_law_137 : decode cL_law 137 = .ok (.iaload, 1) := by decide +kernel
theorem dL_law_138 : decode cL_law 138 = .ok (.aload_n 0, 1) := by decide +kernel
theorem dL_law_139 : decode cL_law 139 = .ok (.iload_n 3, 1) := by decide +kernel
theorem dL_law_140 : decode cL_law 140 = .ok (.iconst 2, 1) := by decide +kernel
theorem dL_law_141 : decode cL_law 141 = .ok (.iadd, 1) := by decide +kernel
theorem dL_law_142 : decode cL_law 142 = .ok (.iaload, 1) := by decide +kernel
theorem dL_law_143 : decode cL_law 143 = .ok (.invokevirtual 13, 3) := by decide +kernel
theorem dL_law_146 : decode cL_law 146 = .ok (.aload_n 2, 1) := by decide +kernel
theorem dL_law_147 : decode cL_law 147 = .ok (.aload_n 0, 1) := by decide +kernel
theorem dL_law_148 : decode cL_law 148 = .ok (.iload_n 3, 1) := by decide +kernel
theorem dL_law_149 : decode cL_law 149 = .ok (.iconst 1, 1) := by decide +kernel
theorem dL_law_150 : decode cL_law 150 = .ok (.iadd, 1) := by decide +kernel
theorem dL_law_151 : decode cL_law 151 = .ok (.iaload, 1) := by decide +kernel
theorem dL_law_152 : decode cL_law 152 = .ok (.aload_n 0, 1) := by decide +kernel
theorem dL_law_153 : decode cL_law 153 = .ok (.iload_n 3, 1) := by decide +kernel
theorem dL_law_154 : decode cL_law 154 = .ok (.iconst 2, 1) := by decide +kernel
theorem dL_law_155 : decode cL_law 155 = .ok (.iadd, 1) := by decide +kernel
theorem dL_law_156 : decode cL_law 156 = .ok (.iaload, 1) := by decide +kernel
theorem dL_law_157 : decode cL_law 157 = .ok (.invokevirtual 17, 3) := by decide +kernel
theorem dL_law_160 : decode cL_law 160 = .ok (.if_icmp .eq 525, 3) := by decide +kernel
theorem dL_law_163 : decode cL_law 163 = .ok (.iconst 0, 1) := by decide +kernel
theorem dL_law_164 : decode cL_law 164 = .ok (.ireturn, 1) := by decide +kernel
theorem dL_law_165 : decode cL_law 165 = .ok (.aload_n 1, 1) := by decide +kernel
theorem dL_law_166 : decode cL_law 166 = .ok (.invokevirtual 18, 3) := by decide +kernel
theorem dL_law_169 : decode cL_law 169 = .ok (.aload_n 2, 1) := by decide +kernel
theorem dL_law_170 : decode cL_law 170 = .ok (.invokevirtual 22, 3) := by decide +kernel
theorem dL_law_173 : decode cL_law 173 = .ok (.if_icmp .eq 512, 3) := by decide +kernel
theorem dL_law_176 : decode cL_law 176 = .ok (.iconst 0, 1) := by decide +kernel
theorem dL_law_177 : decode cL_law 177 = .ok (.ireturn, 1) := by decide +kernel
theorem dL_law_178 : decode cL_law 178 = .ok (.aload_n 1, 1) := by decide +kernel
theorem dL_law_179 : decode cL_law 179 = .ok (.aload_n 0, 1) := by decide +kernel
theorem dL_law_180 : decode cL_law 180 = .ok (.iload_n 3, 1) := by decide +kernel
theorem dL_law_181 : decode cL_law 181 = .ok (.iconst 1, 1) := by decide +kernel
theorem dL_law_182 : decode cL_law 182 = .ok (.iadd, 1) := by decide +kernel
theorem dL_law_183 : decode cL_law 183 = .ok (.iaload, 1) := by decide +kernel
theorem dL_law_184 : decode cL_law 184 = .ok (.aload_n 0, 1) := by decide +kernel
theorem dL_law_185 : decode cL_law 185 = .ok (.iload_n 3, 1) := by decide +kernel
theorem dL_law_186 : decode cL_law 186 = .ok (.iconst 2, 1) := by decide +kernel
theorem dL_law_187 : decode cL_law 187 = .ok (.iadd, 1) := by decide +kernel
theorem dL_law_188 : decode cL_law 188 = .ok (.iaload, 1) := by decide +kernel
theorem dL_law_189 : decode cL_law 189 = .ok (.invokevirtual 23, 3) := by decide +kernel
theorem dL_law_192 : decode cL_law 192 = .ok (.aload_n 2, 1) := by decide +kernel
theorem dL_law_193 : decode cL_law 193 = .ok (.aload_n 0, 1) := by decide +kernel
theorem dL_law_194 : decode cL_law 194 = .ok (.iload_n 3, 1) := by decide +kernel
theorem dL_law_195 : decode cL_law 195 = .ok (.iconst 1, 1) := by decide +kernel
theorem dL_law_196 : decode cL_law 196 = .ok (.iadd, 1) := by decide +kernel
theorem dL_law_197 : decode cL_law 197 = .ok (.iaload, 1) := by decide +kernel
theorem dL_law_198 : decode cL_law 198 = .ok (.aload_n 0, 1) := by decide +kernel
theorem dL_law_199 : decode cL_law 199 = .ok (.iload_n 3, 1) := by decide +kernel
theorem dL_law_200 : decode cL_law 200 = .ok (.iconst 2, 1) := by decide +kernel
theorem dL_law_201 : decode cL_law 201 = .ok (.iadd, 1) := by decide +kernel
theorem dL_law_202 : decode cL_law 202 = .ok (.iaload, 1) := by decide +kernel
theorem dL_law_203 : decode cL_law 203 = .ok (.invokevirtual 26, 3) := by decide +kernel
theorem dL_law_206 : decode cL_law 206 = .ok (.if_icmp .eq 479, 3) := by decide +kernel
theorem dL_law_209 : decode cL_law 209 = .ok (.iconst 0, 1) := by decide +kernel
theorem dL_law_210 : decode cL_law 210 = .ok (.ireturn, 1) := by decide +kernel
theorem dL_law_211 : decode cL_law 211 = .ok (.aload_n 1, 1) := by decide +kernel
theorem dL_law_212 : decode cL_law 212 = .ok (.aload_n 0, 1) := by decide +kernel
theorem dL_law_213 : decode cL_law 213 = .ok (.iload_n 3, 1) := by decide +kernel
theorem dL_law_214 : decode cL_law 214 = .ok (.iconst 1, 1) := by decide +kernel
theorem dL_law_215 : decode cL_law 215 = .ok (.iadd, 1) := by decide +kernel
theorem dL_law_216 : decode cL_law 216 = .ok (.iaload, 1) := by decide +kernel
theorem dL_law_217 : decode cL_law 217 = .ok (.invokevirtual 27, 3) := by decide +kernel
theorem dL_law_220 : decode cL_law 220 = .ok (.aload_n 2, 1) := by decide +kernel
theorem dL_law_221 : decode cL_law 221 = .ok (.aload_n 0, 1) := by decide +kernel
theorem dL_law_222 : decode cL_law 222 = .ok (.iload_n 3, 1) := by decide +kernel
theorem dL_law_223 : decode cL_law 223 = .ok (.iconst 1, 1) := by decide +kernel
theorem dL_law_224 : decode cL_law 224 = .ok (.iadd, 1) := by decide +kernel
theorem dL_law_225 : decode cL_law 225 = .ok (.iaload, 1) := by decide +kernel
theorem dL_law_226 : decode cL_law 226 = .ok (.invokevirtual 31, 3) := by decide +kernel
theorem dL_law_229 : decode cL_law 229 = .ok (.if_icmp .eq 456, 3) := by decide +kernel
theorem dL_law_232 : decode cL_law 232 = .ok (.iconst 0, 1) := by decide +kernel
theorem dL_law_233 : decode cL_law 233 = .ok (.ireturn, 1) := by decide +kernel
theorem dL_law_234 : decode cL_law 234 = .ok (.aload_n 1, 1) := by decide +kernel
theorem dL_law_235 : decode cL_law 235 = .ok (.invokevirtual 32, 3) := by decide +kernel
theorem dL_law_238 : decode cL_law 238 = .ok (.aload_n 2, 1) := by decide +kernel
theorem dL_law_239 : decode cL_law 239 = .ok (.invokevirtual 35, 3) := by decide +kernel
theorem dL_law_242 : decode cL_law 242 = .ok (.if_icmp .eq 443, 3) := by decide +kernel
theorem dL_law_245 : decode cL_law 245 = .ok (.iconst 0, 1) := by decide +kernel
theorem dL_law_246 : decode cL_law 246 = .ok (.ireturn, 1) := by decide +kernel
theorem dL_law_247 : decode cL_law 247 = .ok (.aload_n 1, 1) := by decide +kernel
theorem dL_law_248 : decode cL_law 248 = .ok (.aload_n 0, 1) := by decide +kernel
theorem dL_law_249 : decode cL_law 249 = .ok (.iload_n 3, 1) := by decide +kernel
theorem dL_law_250 : decode cL_law 250 = .ok (.iconst 1, 1) := by decide +kernel
theorem dL_law_251 : decode cL_law 251 = .ok (.iadd, 1) := by decide +kernel
theorem dL_law_252 : decode cL_law 252 = .ok (.iaload, 1) := by decide +kernel
theorem dL_law_253 : decode cL_law 253 = .ok (.aload_n 0, 1) := by decide +kernel
theorem dL_law_254 : decode cL_law 254 = .ok (.iload_n 3, 1) := by decide +kernel
theorem dL_law_255 : decode cL_law 255 = .ok (.iconst 2, 1) := by decide +kernel
theorem dL_law_256 : decode cL_law 256 = .ok (.iadd, 1) := by decide +kernel
theorem dL_law_257 : decode cL_law 257 = .ok (.iaload, 1) := by decide +kernel
theorem dL_law_258 : decode cL_law 258 = .ok (.invokevirtual 36, 3) := by decide +kernel
theorem dL_law_261 : decode cL_law 261 = .ok (.aload_n 2, 1) := by decide +kernel
theorem dL_law_262 : decode cL_law 262 = .ok (.aload_n 0, 1) := by decide +kernel
theorem dL_law_263 : decode cL_law 263 = .ok (.iload_n 3, 1) := by decide +kernel
theorem dL_law_264 : decode cL_law 264 = .ok (.iconst 1, 1) := by decide +kernel
theorem dL_law_265 : decode cL_law 265 = .ok (.iadd, 1) := by decide +kernel
theorem dL_law_266 : decode cL_law 266 = .ok (.iaload, 1) := by decide +kernel
theorem dL_law_267 : decode cL_law 267 = .ok (.aload_n 0, 1) := by decide +kernel
theorem dL_law_268 : decode cL_law 268 = .ok (.iload_n 3, 1) := by decide +kernel
theorem dL_law_269 : decode cL_law 269 = .ok (.iconst 2, 1) := by decide +kernel
theorem dL_law_270 : decode cL_law 270 = .ok (.iadd, 1) := by decide +kernel
theorem dL_law_271 : decode cL_law 271 = .ok (.iaload, 1) := by decide +kernel
theorem dL_law_272 : decode cL_law 272 = .ok (.invokevirtual 39, 3) := by decide +kernel
theorem dL_law_275 : decode cL_law 275 = .ok (.if_icmp .eq 410, 3) := by decide +kernel
theorem dL_law_278 : decode cL_law 278 = .ok (.iconst 0, 1) := by decide +kernel
theorem dL_law_279 : decode cL_law 279 = .ok (.ireturn, 1) := by decide +kernel
theorem dL_law_280 : decode cL_law 280 = .ok (.aload_n 1, 1) := by decide +kernel
theorem dL_law_281 : decode cL_law 281 = .ok (.aload_n 0, 1) := by decide +kernel
theorem dL_law_282 : decode cL_law 282 = .ok (.iload_n 3, 1) := by decide +kernel
theorem dL_law_283 : decode cL_law 283 = .ok (.iconst 1, 1) := by decide +kernel
theorem dL_law_284 : decode cL_law 284 = .ok (.iadd, 1) := by decide +kernel
theorem dL_law_285 : decode cL_law 285 = .ok (.iaload, 1) := by decide +kernel
theorem dL_law_286 : decode cL_law 286 = .ok (.aload_n 0, 1) := by decide +kernel
theorem dL_law_287 : decode cL_law 287 = .ok (.iload_n 3, 1) := by decide +kernel
theorem dL_law_288 : decode cL_law 288 = .ok (.iconst 2, 1) := by decide +kernel
theorem dL_law_289 : decode cL_law 289 = .ok (.iadd, 1) := by decide +kernel
theorem dL_law_290 : decode cL_law 290 = .ok (.iaload, 1) := by decide +kernel
theorem dL_law_291 : decode cL_law 291 = .ok (.invokevirtual 40, 3) := by decide +kernel
theorem dL_law_294 : decode cL_law 294 = .ok (.aload_n 2, 1) := by decide +kernel
theorem dL_law_295 : decode cL_law 295 = .ok (.aload_n 0, 1) := by decide +kernel
theorem dL_law_296 : decode cL_law 296 = .ok (.iload_n 3, 1) := by decide +kernel
theorem dL_law_297 : decode cL_law 297 = .ok (.iconst 1, 1) := by decide +kernel
theorem dL_law_298 : decode cL_law 298 = .ok (.iadd, 1) := by decide +kernel
theorem dL_law_299 : decode cL_law 299 = .ok (.iaload, 1) := by decide +kernel
theorem dL_law_300 : decode cL_law 300 = .ok (.aload_n 0, 1) := by decide +kernel
theorem dL_law_301 : decode cL_law 301 = .ok (.iload_n 3, 1) := by decide +kernel
theorem dL_law_302 : decode cL_law 302 = .ok (.iconst 2, 1) := by decide +kernel
theorem dL_law_303 : decode cL_law 303 = .ok (.iadd, 1) := by decide +kernel
theorem dL_law_304 : decode cL_law 304 = .ok (.iaload, 1) := by decide +kernel
theorem dL_law_305 : decode cL_law 305 = .ok (.invokevirtual 43, 3) := by decide +kernel
theorem dL_law_308 : decode cL_law 308 = .ok (.if_icmp .eq 377, 3) := by decide +kernel
theorem dL_law_311 : decode cL_law 311 = .ok (.iconst 0, 1) := by decide +kernel
theorem dL_law_312 : decode cL_law 312 = .ok (.ireturn, 1) := by decide +kernel
theorem dL_law_313 : decode cL_law 313 = .ok (.aload_n 1, 1) := by decide +kernel
theorem dL_law_314 : decode cL_law 314 = .ok (.aload_n 0, 1) := by decide +kernel
theorem dL_law_315 : decode cL_law 315 = .ok (.iload_n 3, 1) := by decide +kernel
theorem dL_law_316 : decode cL_law 316 = .ok (.iconst 1, 1) := by decide +kernel
theorem dL_law_317 : decode cL_law 317 = .ok (.iadd, 1) := by decide +kernel
theorem dL_law_318 : decode cL_law 318 = .ok (.iaload, 1) := by decide +kernel
theorem dL_law_319 : decode cL_law 319 = .ok (.aload_n 0, 1) := by decide +kernel
theorem dL_law_320 : decode cL_law 320 = .ok (.iload_n 3, 1) := by decide +kernel
theorem dL_law_321 : decode cL_law 321 = .ok (.iconst 2, 1) := by decide +kernel
theorem dL_law_322 : decode cL_law 322 = .ok (.iadd, 1) := by decide +kernel
theorem dL_law_323 : decode cL_law 323 = .ok (.iaload, 1) := by decide +kernel
theorem dL_law_324 : decode cL_law 324 = .ok (.aload_n 0, 1) := by decide +kernel
theorem dL_law_325 : decode cL_law 325 = .ok (.iload_n 3, 1) := by decide +kernel
theorem dL_law_326 : decode cL_law 326 = .ok (.iconst 3, 1) := by decide +kernel
theorem dL_law_327 : decode cL_law 327 = .ok (.iadd, 1) := by decide +kernel
theorem dL_law_328 : decode cL_law 328 = .ok (.iaload, 1) := by decide +kernel
theorem dL_law_329 : decode cL_law 329 = .ok (.invokevirtual 44, 3) := by decide +kernel
theorem dL_law_332 : decode cL_law 332 = .ok (.aload_n 2, 1) := by decide +kernel
theorem dL_law_333 : decode cL_law 333 = .ok (.aload_n 0, 1) := by decide +kernel
theorem dL_law_334 : decode cL_law 334 = .ok (.iload_n 3, 1) := by decide +kernel
theorem dL_law_335 : decode cL_law 335 = .ok (.iconst 1, 1) := by decide +kernel
theorem dL_law_336 : decode cL_law 336 = .ok (.iadd, 1) := by decide +kernel
theorem dL_law_337 : decode cL_law 337 = .ok (.iaload, 1) := by decide +kernel
theorem dL_law_338 : decode cL_law 338 = .ok (.aload_n 0, 1) := by decide +kernel
theorem dL_law_339 : decode cL_law 339 = .ok (.iload_n 3, 1) := by decide +kernel
theorem dL_law_340 : decode cL_law 340 = .ok (.iconst 2, 1) := by decide +kernel
theorem dL_law_341 : decode cL_law 341 = .ok (.iadd, 1) := by decide +kernel
theorem dL_law_342 : decode cL_law 342 = .ok (.iaload, 1) := by decide +kernel
theorem dL_law_343 : decode cL_law 343 = .ok (.aload_n 0, 1) := by decide +kernel
theorem dL_law_344 : decode cL_law 344 = .ok (.iload_n 3, 1) := by decide +kernel
theorem dL_law_345 : decode cL_law 345 = .ok (.iconst 3, 1) := by decide +kernel
theorem dL_law_346 : decode cL_law 346 = .ok (.iadd, 1) := by decide +kernel
theorem dL_law_347 : decode cL_law 347 = .ok (.iaload, 1) := by decide +kernel
theorem dL_law_348 : decode cL_law 348 = .ok (.invokevirtual 48, 3) := by decide +kernel
theorem dL_law_351 : decode cL_law 351 = .ok (.if_icmp .eq 334, 3) := by decide +kernel
theorem dL_law_354 : decode cL_law 354 = .ok (.iconst 0, 1) := by decide +kernel
theorem dL_law_355 : decode cL_law 355 = .ok (.ireturn, 1) := by decide +kernel
theorem dL_law_356 : decode cL_law 356 = .ok (.aload_n 1, 1) := by decide +kernel
theorem dL_law_357 : decode cL_law 357 = .ok (.aload_n 0, 1) := by decide +kernel
theorem dL_law_358 : decode cL_law 358 = .ok (.iload_n 3, 1) := by decide +kernel
theorem dL_law_359 : decode cL_law 359 = .ok (.iconst 1, 1) := by decide +kernel
theorem dL_law_360 : decode cL_law 360 = .ok (.iadd, 1) := by decide +kernel
theorem dL_law_361 : decode cL_law 361 = .ok (.iaload, 1) := by decide +kernel
theorem dL_law_362 : decode cL_law 362 = .ok (.aload_n 0, 1) := by decide +kernel
theorem dL_law_363 : decode cL_law 363 = .ok (.iload_n 3, 1) := by decide +kernel
theorem dL_law_364 : decode cL_law 364 = .ok (.iconst 2, 1) := by decide +kernel
theorem dL_law_365 : decode cL_law 365 = .ok (.iadd, 1) := by decide +kernel
theorem dL_law_366 : decode cL_law 366 = .ok (.iaload, 1) := by decide +kernel
theorem dL_law_367 : decode cL_law 367 = .ok (.invokevirtual 49, 3) := by decide +kernel
theorem dL_law_370 : decode cL_law 370 = .ok (.aload_n 2, 1) := by decide +kernel
theorem dL_law_371 : decode cL_law 371 = .ok (.aload_n 0, 1) := by decide +kernel
theorem dL_law_372 : decode cL_law 372 = .ok (.iload_n 3, 1) := by decide +kernel
theorem dL_law_373 : decode cL_law 373 = .ok (.iconst 1, 1) := by decide +kernel
theorem dL_law_374 : decode cL_law 374 = .ok (.iadd, 1) := by decide +kernel
theorem dL_law_375 : decode cL_law 375 = .ok (.iaload, 1) := by decide +kernel
theorem dL_law_376 : decode cL_law 376 = .ok (.aload_n 0, 1) := by decide +kernel
theorem dL_law_377 : decode cL_law 377 = .ok (.iload_n 3, 1) := by decide +kernel
theorem dL_law_378 : decode cL_law 378 = .ok (.iconst 2, 1) := by decide +kernel
theorem dL_law_379 : decode cL_law 379 = .ok (.iadd, 1) := by decide +kernel
theorem dL_law_380 : decode cL_law 380 = .ok (.iaload, 1) := by decide +kernel
theorem dL_law_381 : decode cL_law 381 = .ok (.invokevirtual 52, 3) := by decide +kernel
theorem dL_law_384 : decode cL_law 384 = .ok (.if_icmp .eq 301, 3) := by decide +kernel
theorem dL_law_387 : decode cL_law 387 = .ok (.iconst 0, 1) := by decide +kernel
theorem dL_law_388 : decode cL_law 388 = .ok (.ireturn, 1) := by decide +kernel
theorem dL_law_389 : decode cL_law 389 = .ok (.aload_n 1, 1) := by decide +kernel
theorem dL_law_390 : decode cL_law 390 = .ok (.aload_n 0, 1) := by decide +kernel
theorem dL_law_391 : decode cL_law 391 = .ok (.iload_n 3, 1) := by decide +kernel
theorem dL_law_392 : decode cL_law 392 = .ok (.iconst 1, 1) := by decide +kernel
theorem dL_law_393 : decode cL_law 393 = .ok (.iadd, 1) := by decide +kernel
theorem dL_law_394 : decode cL_law 394 = .ok (.iaload, 1) := by decide +kernel
theorem dL_law_395 : decode cL_law 395 = .ok (.aload_n 0, 1) := by decide +kernel
theorem dL_law_396 : decode cL_law 396 = .ok (.iload_n 3, 1) := by decide +kernel
theorem dL_law_397 : decode cL_law 397 = .ok (.iconst 2, 1) := by decide +kernel
theorem dL_law_398 : decode cL_law 398 = .ok (.iadd, 1) := by decide +kernel
theorem dL_law_399 : decode cL_law 399 = .ok (.iaload, 1) := by decide +kernel
theorem dL_law_400 : decode cL_law 400 = .ok (.aload_n 0, 1) := by decide +kernel
theorem dL_law_401 : decode cL_law 401 = .ok (.iload_n 3, 1) := by decide +kernel
theorem dL_law_402 : decode cL_law 402 = .ok (.iconst 3, 1) := by decide +kernel
theorem dL_law_403 : decode cL_law 403 = .ok (.iadd, 1) := by decide +kernel
theorem dL_law_404 : decode cL_law 404 = .ok (.iaload, 1) := by decide +kernel
theorem dL_law_405 : decode cL_law 405 = .ok (.invokevirtual 53, 3) := by decide +kernel
theorem dL_law_408 : decode cL_law 408 = .ok (.aload_n 2, 1) := by decide +kernel
theorem dL_law_409 : decode cL_law 409 = .ok (.aload_n 0, 1) := by decide +kernel
theorem dL_law_410 : decode cL_law 410 = .ok (.iload_n 3, 1) := by decide +kernel
theorem dL_law_411 : decode cL_law 411 = .ok (.iconst 1, 1) := by decide +kernel
theorem dL_law_412 : decode cL_law 412 = .ok (.iadd, 1) := by decide +kernel
theorem dL_law_413 : decode cL_law 413 = .ok (.iaload, 1) := by decide +kernel
theorem dL_law_414 : decode cL_law 414 = .ok (.aload_n 0, 1) := by decide +kernel
theorem dL_law_415 : decode cL_law 415 = .ok (.iload_n 3, 1) := by decide +kernel
theorem dL_law_416 : decode cL_law 416 = .ok (.iconst 2, 1) := by decide +kernel
theorem dL_law_417 : decode cL_law 417 = .ok (.iadd, 1) := by decide +kernel
theorem dL_law_418 : decode cL_law 418 = .ok (.iaload, 1) := by decide +kernel
theorem dL_law_419 : decode cL_law 419 = .ok (.aload_n 0, 1) := by decide +kernel
theorem dL_law_420 : decode cL_law 420 = .ok (.iload_n 3, 1) := by decide +kernel
theorem dL_law_421 : decode cL_law 421 = .ok (.iconst 3, 1) := by decide +kernel
theorem dL_law_422 : decode cL_law 422 = .ok (.iadd, 1) := by decide +kernel
theorem dL_law_423 : decode cL_law 423 = .ok (.iaload, 1) := by decide +kernel
theorem dL_law_424 : decode cL_law 424 = .ok (.invokevirtual 56, 3) := by decide +kernel
theorem dL_law_427 : decode cL_law 427 = .ok (.if_icmp .eq 258, 3) := by decide +kernel
theorem dL_law_430 : decode cL_law 430 = .ok (.iconst 0, 1) := by decide +kernel
theorem dL_law_431 : decode cL_law 431 = .ok (.ireturn, 1) := by decide +kernel
theorem dL_law_432 : decode cL_law 432 = .ok (.aload_n 1, 1) := by decide +kernel
theorem dL_law_433 : decode cL_law 433 = .ok (.aload_n 0, 1) := by decide +kernel
theorem dL_law_434 : decode cL_law 434 = .ok (.iload_n 3, 1) := by decide +kernel
theorem dL_law_435 : decode cL_law 435 = .ok (.iconst 1, 1) := by decide +kernel
theorem dL_law_436 : decode cL_law 436 = .ok (.iadd, 1) := by decide +kernel
theorem dL_law_437 : decode cL_law 437 = .ok (.iaload, 1) := by decide +kernel
theorem dL_law_438 : decode cL_law 438 = .ok (.invokevirtual 57, 3) := by decide +kernel
theorem dL_law_441 : decode cL_law 441 = .ok (.aload_n 2, 1) := by decide +kernel
theorem dL_law_442 : decode cL_law 442 = .ok (.aload_n 0, 1) := by decide +kernel
theorem dL_law_443 : decode cL_law 443 = .ok (.iload_n 3, 1) := by decide +kernel
theorem dL_law_444 : decode cL_law 444 = .ok (.iconst 1, 1) := by decide +kernel
theorem dL_law_445 : decode cL_law 445 = .ok (.iadd, 1) := by decide +kernel
theorem dL_law_446 : decode cL_law 446 = .ok (.iaload, 1) := by decide +kernel
theorem dL_law_447 : decode cL_law 447 = .ok (.invokevirtual 60, 3) := by decide +kernel
theorem dL_law_450 : decode cL_law 450 = .ok (.if_icmp .eq 235, 3) := by decide +kernel
theorem dL_law_453 : decode cL_law 453 = .ok (.iconst 0, 1) := by decide +kernel
theorem dL_law_454 : decode cL_law 454 = .ok (.ireturn, 1) := by decide +kernel
theorem dL_law_455 : decode cL_law 455 = .ok (.aload_n 1, 1) := by decide +kernel
theorem dL_law_456 : decode cL_law 456 = .ok (.aload_n 0, 1) := by decide +kernel
theorem dL_law_457 : decode cL_law 457 = .ok (.iload_n 3, 1) := by decide +kernel
theorem dL_law_458 : decode cL_law 458 = .ok (.iconst 1, 1) := by decide +kernel
theorem dL_law_459 : decode cL_law 459 = .ok (.iadd, 1) := by decide +kernel
theorem dL_law_460 : decode cL_law 460 = .ok (.iaload, 1) := by decide +kernel
theorem dL_law_461 : decode cL_law 461 = .ok (.invokevirtual 61, 3) := by decide +kernel
theorem dL_law_464 : decode cL_law 464 = .ok (.aload_n 2, 1) := by decide +kernel
theorem dL_law_465 : decode cL_law 465 = .ok (.aload_n 0, 1) := by decide +kernel
theorem dL_law_466 : decode cL_law 466 = .ok (.iload_n 3, 1) := by decide +kernel
theorem dL_law_467 : decode cL_law 467 = .ok (.iconst 1, 1) := by decide +kernel
theorem dL_law_468 : decode cL_law 468 = .ok (.iadd, 1) := by decide +kernel
theorem dL_law_469 : decode cL_law 469 = .ok (.iaload, 1) := by decide +kernel
theorem dL_law_470 : decode cL_law 470 = .ok (.invokevirtual 64, 3) := by decide +kernel
theorem dL_law_473 : decode cL_law 473 = .ok (.if_icmp .eq 212, 3) := by decide +kernel
theorem dL_law_476 : decode cL_law 476 = .ok (.iconst 0, 1) := by decide +kernel
theorem dL_law_477 : decode cL_law 477 = .ok (.ireturn, 1) := by decide +kernel
theorem dL_law_478 : decode cL_law 478 = .ok (.aload_n 1, 1) := by decide +kernel
theorem dL_law_479 : decode cL_law 479 = .ok (.aload_n 0, 1) := by decide +kernel
theorem dL_law_480 : decode cL_law 480 = .ok (.iload_n 3, 1) := by decide +kernel
theorem dL_law_481 : decode cL_law 481 = .ok (.iconst 1, 1) := by decide +kernel
theorem dL_law_482 : decode cL_law 482 = .ok (.iadd, 1) := by decide +kernel
theorem dL_law_483 : decode cL_law 483 = .ok (.iaload, 1) := by decide +kernel
theorem dL_law_484 : decode cL_law 484 = .ok (.aload_n 0, 1) := by decide +kernel
theorem dL_law_485 : decode cL_law 485 = .ok (.iload_n 3, 1) := by decide +kernel
theorem dL_law_486 : decode cL_law 486 = .ok (.iconst 2, 1) := by decide +kernel
theorem dL_law_487 : decode cL_law 487 = .ok (.iadd, 1) := by decide +kernel
theorem dL_law_488 : decode cL_law 488 = .ok (.iaload, 1) := by decide +kernel
theorem dL_law_489 : decode cL_law 489 = .ok (.invokevirtual 65, 3) := by decide +kernel
theorem dL_law_492 : decode cL_law 492 = .ok (.aload_n 2, 1) := by decide +kernel
theorem dL_law_493 : decode cL_law 493 = .ok (.aload_n 0, 1) := by decide +kernel
theorem dL_law_494 : decode cL_law 494 = .ok (.iload_n 3, 1) := by decide +kernel
theorem dL_law_495 : decode cL_law 495 = .ok (.iconst 1, 1) := by decide +kernel
theorem dL_law_496 : decode cL_law 496 = .ok (.iadd, 1) := by decide +kernel
theorem dL_law_497 : decode cL_law 497 = .ok (.iaload, 1) := by decide +kernel
theorem dL_law_498 : decode cL_law 498 = .ok (.aload_n 0, 1) := by decide +kernel
theorem dL_law_499 : decode cL_law 499 = .ok (.iload_n 3, 1) := by decide +kernel
theorem dL_law_500 : decode cL_law 500 = .ok (.iconst 2, 1) := by decide +kernel
theorem dL_law_501 : decode cL_law 501 = .ok (.iadd, 1) := by decide +kernel
theorem dL_law_502 : decode cL_law 502 = .ok (.iaload, 1) := by decide +kernel
theorem dL_law_503 : decode cL_law 503 = .ok (.invokevirtual 68, 3) := by decide +kernel
theorem dL_law_506 : decode cL_law 506 = .ok (.if_icmp .eq 179, 3) := by decide +kernel
theorem dL_law_509 : decode cL_law 509 = .ok (.iconst 0, 1) := by decide +kernel
theorem dL_law_510 : decode cL_law 510 = .ok (.ireturn, 1) := by decide +kernel
theorem dL_law_511 : decode cL_law 511 = .ok (.aload_n 1, 1) := by decide +kernel
theorem dL_law_512 : decode cL_law 512 = .ok (.invokevirtual 69, 3) := by decide +kernel
theorem dL_law_515 : decode cL_law 515 = .ok (.aload_n 2, 1) := by decide +kernel
theorem dL_law_516 : decode cL_law 516 = .ok (.invokevirtual 72, 3) := by decide +kernel
theorem dL_law_519 : decode cL_law 519 = .ok (.if_icmp .eq 166, 3) := by decide +kernel
theorem dL_law_522 : decode cL_law 522 = .ok (.iconst 0, 1) := by decide +kernel
theorem dL_law_523 : decode cL_law 523 = .ok (.ireturn, 1) := by decide +kernel
theorem dL_law_524 : decode cL_law 524 = .ok (.aload_n 1, 1) := by decide +kernel
theorem dL_law_525 : decode cL_law 525 = .ok (.aload_n 0, 1) := by decide +kernel
theorem dL_law_526 : decode cL_law 526 = .ok (.iload_n 3, 1) := by decide +kernel
theorem dL_law_527 : decode cL_law 527 = .ok (.iconst 1, 1) := by decide +kernel
theorem dL_law_528 : decode cL_law 528 = .ok (.iadd, 1) := by decide +kernel
theorem dL_law_529 : decode cL_law 529 = .ok (.iaload, 1) := by decide +kernel
theorem dL_law_530 : decode cL_law 530 = .ok (.invokevirtual 73, 3) := by decide +kernel
theorem dL_law_533 : decode cL_law 533 = .ok (.aload_n 2, 1) := by decide +kernel
theorem dL_law_534 : decode cL_law 534 = .ok (.aload_n 0, 1) := by decide +kernel
theorem dL_law_535 : decode cL_law 535 = .ok (.iload_n 3, 1) := by decide +kernel
theorem dL_law_536 : decode cL_law 536 = .ok (.iconst 1, 1) := by decide +kernel
theorem dL_law_537 : decode cL_law 537 = .ok (.iadd, 1) := by decide +kernel
theorem dL_law_538 : decode cL_law 538 = .ok (.iaload, 1) := by decide +kernel
theorem dL_law_539 : decode cL_law 539 = .ok (.invokevirtual 76, 3) := by decide +kernel
theorem dL_law_542 : decode cL_law 542 = .ok (.if_icmp .eq 143, 3) := by decide +kernel
theorem dL_law_545 : decode cL_law 545 = .ok (.iconst 0, 1) := by decide +kernel
theorem dL_law_546 : decode cL_law 546 = .ok (.ireturn, 1) := by decide +kernel
theorem dL_law_547 : decode cL_law 547 = .ok (.aload_n 1, 1) := by decide +kernel
theorem dL_law_548 : decode cL_law 548 = .ok (.aload_n 0, 1) := by decide +kernel
theorem dL_law_549 : decode cL_law 549 = .ok (.iload_n 3, 1) := by decide +kernel
theorem dL_law_550 : decode cL_law 550 = .ok (.iconst 1, 1) := by decide +kernel
theorem dL_law_551 : decode cL_law 551 = .ok (.iadd, 1) := by decide +kernel
theorem dL_law_552 : decode cL_law 552 = .ok (.iaload, 1) := by decide +kernel
theorem dL_law_553 : decode cL_law 553 = .ok (.i2l, 1) := by decide +kernel
theorem dL_law_554 : decode cL_law 554 = .ok (.bipush 32, 2) := by decide +kernel
theorem dL_law_556 : decode cL_law 556 = .ok (.lshl, 1) := by decide +kernel
theorem dL_law_557 : decode cL_law 557 = .ok (.aload_n 0, 1) := by decide +kernel
theorem dL_law_558 : decode cL_law 558 = .ok (.iload_n 3, 1) := by decide +kernel
theorem dL_law_559 : decode cL_law 559 = .ok (.iconst 2, 1) := by decide +kernel
theorem dL_law_560 : decode cL_law 560 = .ok (.iadd, 1) := by decide +kernel
theorem dL_law_561 : decode cL_law 561 = .ok (.iaload, 1) := by decide +kernel
theorem dL_law_562 : decode cL_law 562 = .ok (.i2l, 1) := by decide +kernel
theorem dL_law_563 : decode cL_law 563 = .ok (.ldc2_w 77, 3) := by decide +kernel
theorem dL_law_566 : decode cL_law 566 = .ok (.land, 1) := by decide +kernel
theorem dL_law_567 : decode cL_law 567 = .ok (.lor, 1) := by decide +kernel
theorem dL_law_568 : decode cL_law 568 = .ok (.invokevirtual 79, 3) := by decide +kernel
theorem dL_law_571 : decode cL_law 571 = .ok (.aload_n 2, 1) := by decide +kernel
theorem dL_law_572 : decode cL_law 572 = .ok (.aload_n 0, 1) := by decide +kernel
theorem dL_law_573 : decode cL_law 573 = .ok (.iload_n 3, 1) := by decide +kernel
theorem dL_law_574 : decode cL_law 574 = .ok (.iconst 1, 1) := by decide +kernel
theorem dL_law_575 : decode cL_law 575 = .ok (.iadd, 1) := by decide +kernel
theorem dL_law_576 : decode cL_law 576 = .ok (.iaload, 1) := by decide +kernel
theorem dL_law_577 : decode cL_law 577 = .ok (.i2l, 1) := by decide +kernel
theorem dL_law_578 : decode cL_law 578 = .ok (.bipush 32, 2) := by decide +kernel
theorem dL_law_580 : decode cL_law 580 = .ok (.lshl, 1) := by decide +kernel
theorem dL_law_581 : decode cL_law 581 = .ok (.aload_n 0, 1) := by decide +kernel
theorem dL_law_582 : decode cL_law 582 = .ok (.iload_n 3, 1) := by decide +kernel
theorem dL_law_583 : decode cL_law 583 = .ok (.iconst 2, 1) := by decide +kernel
theorem dL_law_584 : decode cL_law 584 = .ok (.iadd, 1) := by decide +kernel
theorem dL_law_585 : decode cL_law 585 = .ok (.iaload, 1) := by decide +kernel
theorem dL_law_586 : decode cL_law 586 = .ok (.i2l, 1) := by decide +kernel
theorem dL_law_587 : decode cL_law 587 = .ok (.ldc2_w 77, 3) := by decide +kernel
theorem dL_law_590 : decode cL_law 590 = .ok (.land, 1) := by decide +kernel
theorem dL_law_591 : decode cL_law 591 = .ok (.lor, 1) := by decide +kernel
theorem dL_law_592 : decode cL_law 592 = .ok (.invokevirtual 83, 3) := by decide +kernel
theorem dL_law_595 : decode cL_law 595 = .ok (.if_icmp .eq 90, 3) := by decide +kernel
theorem dL_law_598 : decode cL_law 598 = .ok (.iconst 0, 1) := by decide +kernel
theorem dL_law_599 : decode cL_law 599 = .ok (.ireturn, 1) := by decide +kernel
theorem dL_law_600 : decode cL_law 600 = .ok (.aload_n 1, 1) := by decide +kernel
theorem dL_law_601 : decode cL_law 601 = .ok (.invokevirtual 84, 3) := by decide +kernel
theorem dL_law_604 : decode cL_law 604 = .ok (.aload_n 2, 1) := by decide +kernel
theorem dL_law_605 : decode cL_law 605 = .ok (.invokevirtual 87, 3) := by decide +kernel
theorem dL_law_608 : decode cL_law 608 = .ok (.if_icmp .eq 77, 3) := by decide +kernel
theorem dL_law_611 : decode cL_law 611 = .ok (.iconst 0, 1) := by decide +kernel
theorem dL_law_612 : decode cL_law 612 = .ok (.ireturn, 1) := by decide +kernel
theorem dL_law_613 : decode cL_law 613 = .ok (.aload_n 1, 1) := by decide +kernel
theorem dL_law_614 : decode cL_law 614 = .ok (.invokevirtual 88, 3) := by decide +kernel
theorem dL_law_617 : decode cL_law 617 = .ok (.aload_n 2, 1) := by decide +kernel
theorem dL_law_618 : decode cL_law 618 = .ok (.invokevirtual 91, 3) := by decide +kernel
theorem dL_law_621 : decode cL_law 621 = .ok (.if_icmp .eq 64, 3) := by decide +kernel
theorem dL_law_624 : decode cL_law 624 = .ok (.iconst 0, 1) := by decide +kernel
theorem dL_law_625 : decode cL_law 625 = .ok (.ireturn, 1) := by decide +kernel
theorem dL_law_626 : decode cL_law 626 = .ok (.aload_n 1, 1) := by decide +kernel
theorem dL_law_627 : decode cL_law 627 = .ok (.invokevirtual 92, 3) := by decide +kernel
theorem dL_law_630 : decode cL_law 630 = .ok (.aload_n 2, 1) := by decide +kernel
theorem dL_law_631 : decode cL_law 631 = .ok (.invokevirtual 95, 3) := by decide +kernel
theorem dL_law_634 : decode cL_law 634 = .ok (.if_icmp .eq 51, 3) := by decide +kernel
theorem dL_law_637 : decode cL_law 637 = .ok (.iconst 0, 1) := by decide +kernel
theorem dL_law_638 : decode cL_law 638 = .ok (.ireturn, 1) := by decide +kernel
theorem dL_law_639 : decode cL_law 639 = .ok (.aload_n 1, 1) := by decide +kernel
theorem dL_law_640 : decode cL_law 640 = .ok (.aload_n 0, 1) := by decide +kernel
theorem dL_law_641 : decode cL_law 641 = .ok (.iload_n 3, 1) := by decide +kernel
theorem dL_law_642 : decode cL_law 642 = .ok (.iconst 1, 1) := by decide +kernel
theorem dL_law_643 : decode cL_law 643 = .ok (.iadd, 1) := by decide +kernel
theorem dL_law_644 : decode cL_law 644 = .ok (.iaload, 1) := by decide +kernel
theorem dL_law_645 : decode cL_law 645 = .ok (.invokevirtual 96, 3) := by decide +kernel
theorem dL_law_648 : decode cL_law 648 = .ok (.aload_n 2, 1) := by decide +kernel
theorem dL_law_649 : decode cL_law 649 = .ok (.aload_n 0, 1) := by decide +kernel
theorem dL_law_650 : decode cL_law 650 = .ok (.iload_n 3, 1) := by decide +kernel
theorem dL_law_651 : decode cL_law 651 = .ok (.iconst 1, 1) := by decide +kernel
theorem dL_law_652 : decode cL_law 652 = .ok (.iadd, 1) := by decide +kernel
theorem dL_law_653 : decode cL_law 653 = .ok (.iaload, 1) := by decide +kernel
theorem dL_law_654 : decode cL_law 654 = .ok (.invokevirtual 99, 3) := by decide +kernel
theorem dL_law_657 : decode cL_law 657 = .ok (.if_icmp .eq 28, 3) := by decide +kernel
theorem dL_law_660 : decode cL_law 660 = .ok (.iconst 0, 1) := by decide +kernel
theorem dL_law_661 : decode cL_law 661 = .ok (.ireturn, 1) := by decide +kernel
theorem dL_law_662 : decode cL_law 662 = .ok (.aload_n 1, 1) := by decide +kernel
theorem dL_law_663 : decode cL_law 663 = .ok (.aload_n 0, 1) := by decide +kernel
theorem dL_law_664 : decode cL_law 664 = .ok (.iload_n 3, 1) := by decide +kernel
theorem dL_law_665 : decode cL_law 665 = .ok (.iconst 1, 1) := by decide +kernel
theorem dL_law_666 : decode cL_law 666 = .ok (.iadd, 1) := by decide +kernel
theorem dL_law_667 : decode cL_law 667 = .ok (.iaload, 1) := by decide +kernel
theorem dL_law_668 : decode cL_law 668 = .ok (.invokevirtual 100, 3) := by decide +kernel
theorem dL_law_671 : decode cL_law 671 = .ok (.aload_n 2, 1) := by decide +kernel
theorem dL_law_672 : decode cL_law 672 = .ok (.aload_n 0, 1) := by decide +kernel
theorem dL_law_673 : decode cL_law 673 = .ok (.iload_n 3, 1) := by decide +kernel
theorem dL_law_674 : decode cL_law 674 = .ok (.iconst 1, 1) := by decide +kernel
theorem dL_law_675 : decode cL_law 675 = .ok (.iadd, 1) := by decide +kernel
theorem dL_law_676 : decode cL_law 676 = .ok (.iaload, 1) := by decide +kernel
theorem dL_law_677 : decode cL_law 677 = .ok (.invokevirtual 103, 3) := by decide +kernel
theorem dL_law_680 : decode cL_law 680 = .ok (.if_icmp .eq 5, 3) := by decide +kernel
theorem dL_law_683 : decode cL_law 683 = .ok (.iconst 0, 1) := by decide +kernel
theorem dL_law_684 : decode cL_law 684 = .ok (.ireturn, 1) := by decide +kernel
theorem dL_law_685 : decode cL_law 685 = .ok (.iinc 3 4, 3) := by decide +kernel
theorem dL_law_688 : decode cL_law 688 = .ok (.goto (-670), 3) := by decide +kernel
theorem dL_law_691 : decode cL_law 691 = .ok (.iconst 1, 1) := by decide +kernel
theorem dL_law_692 : decode cL_law 692 = .ok (.ireturn, 1) := by decide +kernel
abbrev vwCl : List vw_C := [(RX0, TX0, 6), (RX1, TX1, 3), (RX2, TX2, 9), (RX3, TX3, 4), (RX7, TX7, 7), (RX4, TX4, 5), (RX5, TX5, 13)]
