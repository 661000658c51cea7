section
-- ===== PART A: goes FIRST, ahead of the names: the tables' words, and 'selects' of the private methods out of them =====
/-- a private method of a class that the tables say can be made, by its rows of tables_1 -/
def lw_okq (q : MethodName × Nat) : Prop := (q.1.cls ≠ "java/lang/invoke/MethodHandle" ∧ q.1.cls ≠ "java/lang/invoke/VarHandle") ∧ Cond.instantiable q.1.cls q.2 ∈ tables_1 ∧ Cond.privateMethod q.1 ∈ tables_1 ∧ Cond.instanceMethod q.1 ∈ tables_1
theorem lw_p0 : lw_okq (⟨"OverflowRows", "setHead", "(I)I"⟩, 5) := ⟨⟨by decide +kernel, by decide +kernel⟩, List.mem_of_getElem? (i := 11) (by decide +kernel), List.mem_of_getElem? (i := 182) (by decide +kernel), List.mem_of_getElem? (i := 183) (by decide +kernel)⟩
theorem lw_p1 : lw_okq (⟨"OverflowRows", "setPiece", "(I)I"⟩, 5) := ⟨⟨by decide +kernel, by decide +kernel⟩, List.mem_of_getElem? (i := 11) (by decide +kernel), List.mem_of_getElem? (i := 203) (by decide +kernel), List.mem_of_getElem? (i := 204) (by decide +kernel)⟩
theorem lw_p2 : lw_okq (⟨"OverflowRows$Pad", "awaitKey", "()V"⟩, 9) := ⟨⟨by decide +kernel, by decide +kernel⟩, List.mem_of_getElem? (i := 19) (by decide +kernel), List.mem_of_getElem? (i := 215) (by decide +kernel), List.mem_of_getElem? (i := 216) (by decide +kernel)⟩
theorem lw_p3 : lw_okq (⟨"OverflowRows$Pad", "readInText", "(I)Z"⟩, 9) := ⟨⟨by decide +kernel, by decide +kernel⟩, List.mem_of_getElem? (i := 19) (by decide +kernel), List.mem_of_getElem? (i := 219) (by decide +kernel), List.mem_of_getElem? (i := 220) (by decide +kernel)⟩
theorem lw_p4 : lw_okq (⟨"OverflowRows$Pad", "readInKey", "(II)Z"⟩, 9) := ⟨⟨by decide +kernel, by decide +kernel⟩, List.mem_of_getElem? (i := 19) (by decide +kernel), List.mem_of_getElem? (i := 223) (by decide +kernel), List.mem_of_getElem? (i := 224) (by decide +kernel)⟩
theorem lw_p5 : lw_okq (⟨"OverflowRows$Pad", "startText", "(I)Z"⟩, 9) := ⟨⟨by decide +kernel, by decide +kernel⟩, List.mem_of_getElem? (i := 19) (by decide +kernel), List.mem_of_getElem? (i := 227) (by decide +kernel), List.mem_of_getElem? (i := 228) (by decide +kernel)⟩
theorem lw_p6 : lw_okq (⟨"OverflowRows", "writePadRow", "(I)Z"⟩, 5) := ⟨⟨by decide +kernel, by decide +kernel⟩, List.mem_of_getElem? (i := 11) (by decide +kernel), List.mem_of_getElem? (i := 231) (by decide +kernel), List.mem_of_getElem? (i := 232) (by decide +kernel)⟩
theorem lw_p7 : lw_okq (⟨"OverflowRows$Book", "addRow", "(I)I"⟩, 12) := ⟨⟨by decide +kernel, by decide +kernel⟩, List.mem_of_getElem? (i := 79) (by decide +kernel), List.mem_of_getElem? (i := 244) (by decide +kernel), List.mem_of_getElem? (i := 245) (by decide +kernel)⟩
theorem lw_p8 : lw_okq (⟨"OverflowRows$Book", "layNew", "(I)Z"⟩, 12) := ⟨⟨by decide +kernel, by decide +kernel⟩, List.mem_of_getElem? (i := 79) (by decide +kernel), List.mem_of_getElem? (i := 248) (by decide +kernel), List.mem_of_getElem? (i := 249) (by decide +kernel)⟩
theorem lw_p9 : lw_okq (⟨"OverflowRows$Book", "headCells", "(I)I"⟩, 12) := ⟨⟨by decide +kernel, by decide +kernel⟩, List.mem_of_getElem? (i := 79) (by decide +kernel), List.mem_of_getElem? (i := 252) (by decide +kernel), List.mem_of_getElem? (i := 253) (by decide +kernel)⟩
theorem lw_p10 : lw_okq (⟨"OverflowRows$Book", "headLetters", "(I)I"⟩, 12) := ⟨⟨by decide +kernel, by decide +kernel⟩, List.mem_of_getElem? (i := 79) (by decide +kernel), List.mem_of_getElem? (i := 256) (by decide +kernel), List.mem_of_getElem? (i := 257) (by decide +kernel)⟩
theorem lw_p11 : lw_okq (⟨"OverflowRows$Pages", "lowestGap", "(I)I"⟩, 4) := ⟨⟨by decide +kernel, by decide +kernel⟩, List.mem_of_getElem? (i := 85) (by decide +kernel), List.mem_of_getElem? (i := 271) (by decide +kernel), List.mem_of_getElem? (i := 272) (by decide +kernel)⟩
theorem lw_p12 : lw_okq (⟨"OverflowRows$Book", "layPieces", "(I)Z"⟩, 12) := ⟨⟨by decide +kernel, by decide +kernel⟩, List.mem_of_getElem? (i := 79) (by decide +kernel), List.mem_of_getElem? (i := 279) (by decide +kernel), List.mem_of_getElem? (i := 280) (by decide +kernel)⟩
theorem lw_p13 : lw_okq (⟨"OverflowRows$Book", "layAgain", "(I)Z"⟩, 12) := ⟨⟨by decide +kernel, by decide +kernel⟩, List.mem_of_getElem? (i := 79) (by decide +kernel), List.mem_of_getElem? (i := 283) (by decide +kernel), List.mem_of_getElem? (i := 284) (by decide +kernel)⟩
theorem lw_p14 : lw_okq (⟨"OverflowRows$Book", "liftPieces", "(I)V"⟩, 12) := ⟨⟨by decide +kernel, by decide +kernel⟩, List.mem_of_getElem? (i := 79) (by decide +kernel), List.mem_of_getElem? (i := 287) (by decide +kernel), List.mem_of_getElem? (i := 288) (by decide +kernel)⟩
theorem lw_p15 : lw_okq (⟨"OverflowRows$Book", "layHeadAgain", "(I)I"⟩, 12) := ⟨⟨by decide +kernel, by decide +kernel⟩, List.mem_of_getElem? (i := 79) (by decide +kernel), List.mem_of_getElem? (i := 295) (by decide +kernel), List.mem_of_getElem? (i := 296) (by decide +kernel)⟩
def lw_privs_1 : List (MethodName × Nat) := [(⟨"OverflowRows", "setHead", "(I)I"⟩, 5), (⟨"OverflowRows", "setPiece", "(I)I"⟩, 5), (⟨"OverflowRows$Pad", "awaitKey", "()V"⟩, 9), (⟨"OverflowRows$Pad", "readInText", "(I)Z"⟩, 9), (⟨"OverflowRows$Pad", "readInKey", "(II)Z"⟩, 9), (⟨"OverflowRows$Pad", "startText", "(I)Z"⟩, 9), (⟨"OverflowRows", "writePadRow", "(I)Z"⟩, 5), (⟨"OverflowRows$Book", "addRow", "(I)I"⟩, 12), (⟨"OverflowRows$Book", "layNew", "(I)Z"⟩, 12), (⟨"OverflowRows$Book", "headCells", "(I)I"⟩, 12), (⟨"OverflowRows$Book", "headLetters", "(I)I"⟩, 12), (⟨"OverflowRows$Pages", "lowestGap", "(I)I"⟩, 4), (⟨"OverflowRows$Book", "layPieces", "(I)Z"⟩, 12), (⟨"OverflowRows$Book", "layAgain", "(I)Z"⟩, 12), (⟨"OverflowRows$Book", "liftPieces", "(I)V"⟩, 12), (⟨"OverflowRows$Book", "layHeadAgain", "(I)I"⟩, 12)]
theorem lw_r1 : ∀ q ∈ lw_privs_1, lw_okq q := List.forall_mem_cons.mpr ⟨lw_p0, List.forall_mem_cons.mpr ⟨lw_p1, List.forall_mem_cons.mpr ⟨lw_p2, List.forall_mem_cons.mpr ⟨lw_p3, List.forall_mem_cons.mpr ⟨lw_p4, List.forall_mem_cons.mpr ⟨lw_p5, List.forall_mem_cons.mpr ⟨lw_p6, List.forall_mem_cons.mpr ⟨lw_p7, List.forall_mem_cons.mpr ⟨lw_p8, List.forall_mem_cons.mpr ⟨lw_p9, List.forall_mem_cons.mpr ⟨lw_p10, List.forall_mem_cons.mpr ⟨lw_p11, List.forall_mem_cons.mpr ⟨lw_p12, List.forall_mem_cons.mpr ⟨lw_p13, List.forall_mem_cons.mpr ⟨lw_p14, List.forall_mem_cons.mpr ⟨lw_p15, fun _ h => absurd h List.not_mem_nil⟩⟩⟩⟩⟩⟩⟩⟩⟩⟩⟩⟩⟩⟩⟩⟩
theorem lw_p16 : lw_okq (⟨"OverflowRows", "takeTrial", "()V"⟩, 5) := ⟨⟨by decide +kernel, by decide +kernel⟩, List.mem_of_getElem? (i := 11) (by decide +kernel), List.mem_of_getElem? (i := 301) (by decide +kernel), List.mem_of_getElem? (i := 302) (by decide +kernel)⟩
theorem lw_p17 : lw_okq (⟨"OverflowRows", "tryPacking", "(I)Z"⟩, 5) := ⟨⟨by decide +kernel, by decide +kernel⟩, List.mem_of_getElem? (i := 11) (by decide +kernel), List.mem_of_getElem? (i := 330) (by decide +kernel), List.mem_of_getElem? (i := 331) (by decide +kernel)⟩
theorem lw_p18 : lw_okq (⟨"OverflowRowsModel", "record", "([I)V"⟩, 13) := ⟨⟨by decide +kernel, by decide +kernel⟩, List.mem_of_getElem? (i := 459) (by decide +kernel), List.mem_of_getElem? (i := 515) (by decide +kernel), List.mem_of_getElem? (i := 516) (by decide +kernel)⟩
theorem lw_p19 : lw_okq (⟨"OverflowRowsModel", "findFault", "()I"⟩, 13) := ⟨⟨by decide +kernel, by decide +kernel⟩, List.mem_of_getElem? (i := 459) (by decide +kernel), List.mem_of_getElem? (i := 526) (by decide +kernel), List.mem_of_getElem? (i := 527) (by decide +kernel)⟩
theorem lw_p20 : lw_okq (⟨"OverflowRowsModel", "writes", "(I)Z"⟩, 13) := ⟨⟨by decide +kernel, by decide +kernel⟩, List.mem_of_getElem? (i := 459) (by decide +kernel), List.mem_of_getElem? (i := 530) (by decide +kernel), List.mem_of_getElem? (i := 531) (by decide +kernel)⟩
theorem lw_p21 : lw_okq (⟨"OverflowRowsModel", "rowWith", "(I)I"⟩, 13) := ⟨⟨by decide +kernel, by decide +kernel⟩, List.mem_of_getElem? (i := 459) (by decide +kernel), List.mem_of_getElem? (i := 534) (by decide +kernel), List.mem_of_getElem? (i := 535) (by decide +kernel)⟩
theorem lw_p22 : lw_okq (⟨"OverflowRowsModel", "part", "(II)I"⟩, 13) := ⟨⟨by decide +kernel, by decide +kernel⟩, List.mem_of_getElem? (i := 459) (by decide +kernel), List.mem_of_getElem? (i := 538) (by decide +kernel), List.mem_of_getElem? (i := 539) (by decide +kernel)⟩
theorem lw_p23 : lw_okq (⟨"OverflowRowsModel", "freeRow", "()I"⟩, 13) := ⟨⟨by decide +kernel, by decide +kernel⟩, List.mem_of_getElem? (i := 459) (by decide +kernel), List.mem_of_getElem? (i := 542) (by decide +kernel), List.mem_of_getElem? (i := 543) (by decide +kernel)⟩
theorem lw_p24 : lw_okq (⟨"OverflowRowsModel", "setPart", "(III)V"⟩, 13) := ⟨⟨by decide +kernel, by decide +kernel⟩, List.mem_of_getElem? (i := 459) (by decide +kernel), List.mem_of_getElem? (i := 546) (by decide +kernel), List.mem_of_getElem? (i := 547) (by decide +kernel)⟩
theorem lw_p25 : lw_okq (⟨"OverflowRowsModel", "writeNew", "(I)Z"⟩, 13) := ⟨⟨by decide +kernel, by decide +kernel⟩, List.mem_of_getElem? (i := 459) (by decide +kernel), List.mem_of_getElem? (i := 550) (by decide +kernel), List.mem_of_getElem? (i := 551) (by decide +kernel)⟩
theorem lw_p26 : lw_okq (⟨"OverflowRowsModel", "headLetters", "()I"⟩, 13) := ⟨⟨by decide +kernel, by decide +kernel⟩, List.mem_of_getElem? (i := 459) (by decide +kernel), List.mem_of_getElem? (i := 554) (by decide +kernel), List.mem_of_getElem? (i := 555) (by decide +kernel)⟩
theorem lw_p27 : lw_okq (⟨"OverflowRowsModel", "placed", "(I)I"⟩, 13) := ⟨⟨by decide +kernel, by decide +kernel⟩, List.mem_of_getElem? (i := 459) (by decide +kernel), List.mem_of_getElem? (i := 561) (by decide +kernel), List.mem_of_getElem? (i := 562) (by decide +kernel)⟩
theorem lw_p28 : lw_okq (⟨"OverflowRowsModel", "freeOf", "(I)I"⟩, 13) := ⟨⟨by decide +kernel, by decide +kernel⟩, List.mem_of_getElem? (i := 459) (by decide +kernel), List.mem_of_getElem? (i := 565) (by decide +kernel), List.mem_of_getElem? (i := 566) (by decide +kernel)⟩
theorem lw_p29 : lw_okq (⟨"OverflowRowsModel", "lowestEmpty", "(I)I"⟩, 13) := ⟨⟨by decide +kernel, by decide +kernel⟩, List.mem_of_getElem? (i := 459) (by decide +kernel), List.mem_of_getElem? (i := 578) (by decide +kernel), List.mem_of_getElem? (i := 579) (by decide +kernel)⟩
theorem lw_p30 : lw_okq (⟨"OverflowRowsModel", "setText", "(I)V"⟩, 13) := ⟨⟨by decide +kernel, by decide +kernel⟩, List.mem_of_getElem? (i := 459) (by decide +kernel), List.mem_of_getElem? (i := 582) (by decide +kernel), List.mem_of_getElem? (i := 583) (by decide +kernel)⟩
theorem lw_p31 : lw_okq (⟨"OverflowRowsModel", "putPieces", "(I)Z"⟩, 13) := ⟨⟨by decide +kernel, by decide +kernel⟩, List.mem_of_getElem? (i := 459) (by decide +kernel), List.mem_of_getElem? (i := 586) (by decide +kernel), List.mem_of_getElem? (i := 587) (by decide +kernel)⟩
def lw_privs_2 : List (MethodName × Nat) := [(⟨"OverflowRows", "takeTrial", "()V"⟩, 5), (⟨"OverflowRows", "tryPacking", "(I)Z"⟩, 5), (⟨"OverflowRowsModel", "record", "([I)V"⟩, 13), (⟨"OverflowRowsModel", "findFault", "()I"⟩, 13), (⟨"OverflowRowsModel", "writes", "(I)Z"⟩, 13), (⟨"OverflowRowsModel", "rowWith", "(I)I"⟩, 13), (⟨"OverflowRowsModel", "part", "(II)I"⟩, 13), (⟨"OverflowRowsModel", "freeRow", "()I"⟩, 13), (⟨"OverflowRowsModel", "setPart", "(III)V"⟩, 13), (⟨"OverflowRowsModel", "writeNew", "(I)Z"⟩, 13), (⟨"OverflowRowsModel", "headLetters", "()I"⟩, 13), (⟨"OverflowRowsModel", "placed", "(I)I"⟩, 13), (⟨"OverflowRowsModel", "freeOf", "(I)I"⟩, 13), (⟨"OverflowRowsModel", "lowestEmpty", "(I)I"⟩, 13), (⟨"OverflowRowsModel", "setText", "(I)V"⟩, 13), (⟨"OverflowRowsModel", "putPieces", "(I)Z"⟩, 13)]
theorem lw_r2 : ∀ q ∈ lw_privs_2, lw_okq q := List.forall_mem_cons.mpr ⟨lw_p16, List.forall_mem_cons.mpr ⟨lw_p17, List.forall_mem_cons.mpr ⟨lw_p18, List.forall_mem_cons.mpr ⟨lw_p19, List.forall_mem_cons.mpr ⟨lw_p20, List.forall_mem_cons.mpr ⟨lw_p21, List.forall_mem_cons.mpr ⟨lw_p22, List.forall_mem_cons.mpr ⟨lw_p23, List.forall_mem_cons.mpr ⟨lw_p24, List.forall_mem_cons.mpr ⟨lw_p25, List.forall_mem_cons.mpr ⟨lw_p26, List.forall_mem_cons.mpr ⟨lw_p27, List.forall_mem_cons.mpr ⟨lw_p28, List.forall_mem_cons.mpr ⟨lw_p29, List.forall_mem_cons.mpr ⟨lw_p30, List.forall_mem_cons.mpr ⟨lw_p31, fun _ h => absurd h List.not_mem_nil⟩⟩⟩⟩⟩⟩⟩⟩⟩⟩⟩⟩⟩⟩⟩⟩
theorem lw_p32 : lw_okq (⟨"OverflowRowsModel", "writeAgain", "(I)Z"⟩, 13) := ⟨⟨by decide +kernel, by decide +kernel⟩, List.mem_of_getElem? (i := 459) (by decide +kernel), List.mem_of_getElem? (i := 590) (by decide +kernel), List.mem_of_getElem? (i := 591) (by decide +kernel)⟩
theorem lw_p33 : lw_okq (⟨"OverflowRowsModel", "dropPieces", "(I)V"⟩, 13) := ⟨⟨by decide +kernel, by decide +kernel⟩, List.mem_of_getElem? (i := 459) (by decide +kernel), List.mem_of_getElem? (i := 594) (by decide +kernel), List.mem_of_getElem? (i := 595) (by decide +kernel)⟩
theorem lw_p34 : lw_okq (⟨"OverflowRowsModel", "findPieces", "(I)V"⟩, 13) := ⟨⟨by decide +kernel, by decide +kernel⟩, List.mem_of_getElem? (i := 459) (by decide +kernel), List.mem_of_getElem? (i := 598) (by decide +kernel), List.mem_of_getElem? (i := 599) (by decide +kernel)⟩
theorem lw_p35 : lw_okq (⟨"OverflowRowsModel", "placeForHead", "(II)I"⟩, 13) := ⟨⟨by decide +kernel, by decide +kernel⟩, List.mem_of_getElem? (i := 459) (by decide +kernel), List.mem_of_getElem? (i := 608) (by decide +kernel), List.mem_of_getElem? (i := 609) (by decide +kernel)⟩
theorem lw_p36 : lw_okq (⟨"OverflowRowsModel", "takeText", "(I)V"⟩, 13) := ⟨⟨by decide +kernel, by decide +kernel⟩, List.mem_of_getElem? (i := 459) (by decide +kernel), List.mem_of_getElem? (i := 616) (by decide +kernel), List.mem_of_getElem? (i := 617) (by decide +kernel)⟩
theorem lw_p37 : lw_okq (⟨"OverflowRowsModel", "letterAt", "(II)I"⟩, 13) := ⟨⟨by decide +kernel, by decide +kernel⟩, List.mem_of_getElem? (i := 459) (by decide +kernel), List.mem_of_getElem? (i := 620) (by decide +kernel), List.mem_of_getElem? (i := 621) (by decide +kernel)⟩
theorem lw_p38 : lw_okq (⟨"OverflowRowsModel", "cellsOfRow", "(I)I"⟩, 13) := ⟨⟨by decide +kernel, by decide +kernel⟩, List.mem_of_getElem? (i := 459) (by decide +kernel), List.mem_of_getElem? (i := 628) (by decide +kernel), List.mem_of_getElem? (i := 629) (by decide +kernel)⟩
theorem lw_p39 : lw_okq (⟨"OverflowRowsModel", "headOf", "(I)I"⟩, 13) := ⟨⟨by decide +kernel, by decide +kernel⟩, List.mem_of_getElem? (i := 459) (by decide +kernel), List.mem_of_getElem? (i := 632) (by decide +kernel), List.mem_of_getElem? (i := 633) (by decide +kernel)⟩
theorem lw_p40 : lw_okq (⟨"OverflowRowsModel", "hasMoved", "(I)Z"⟩, 13) := ⟨⟨by decide +kernel, by decide +kernel⟩, List.mem_of_getElem? (i := 459) (by decide +kernel), List.mem_of_getElem? (i := 636) (by decide +kernel), List.mem_of_getElem? (i := 637) (by decide +kernel)⟩
theorem lw_p41 : lw_okq (⟨"OverflowRowsModel", "packs", "()Z"⟩, 13) := ⟨⟨by decide +kernel, by decide +kernel⟩, List.mem_of_getElem? (i := 459) (by decide +kernel), List.mem_of_getElem? (i := 644) (by decide +kernel), List.mem_of_getElem? (i := 645) (by decide +kernel)⟩
theorem lw_p42 : lw_okq (⟨"OverflowRowsModel", "keyAt", "(I)I"⟩, 13) := ⟨⟨by decide +kernel, by decide +kernel⟩, List.mem_of_getElem? (i := 459) (by decide +kernel), List.mem_of_getElem? (i := 648) (by decide +kernel), List.mem_of_getElem? (i := 649) (by decide +kernel)⟩
theorem lw_p43 : lw_okq (⟨"OverflowRowsModel", "pagesWith", "()I"⟩, 13) := ⟨⟨by decide +kernel, by decide +kernel⟩, List.mem_of_getElem? (i := 459) (by decide +kernel), List.mem_of_getElem? (i := 652) (by decide +kernel), List.mem_of_getElem? (i := 653) (by decide +kernel)⟩
theorem lw_p44 : lw_okq (⟨"OverflowRowsModel", "slotsOf", "(I)I"⟩, 13) := ⟨⟨by decide +kernel, by decide +kernel⟩, List.mem_of_getElem? (i := 459) (by decide +kernel), List.mem_of_getElem? (i := 656) (by decide +kernel), List.mem_of_getElem? (i := 657) (by decide +kernel)⟩
theorem lw_p45 : lw_okq (⟨"OverflowRowsModel", "costOf", "(I)I"⟩, 13) := ⟨⟨by decide +kernel, by decide +kernel⟩, List.mem_of_getElem? (i := 459) (by decide +kernel), List.mem_of_getElem? (i := 664) (by decide +kernel), List.mem_of_getElem? (i := 665) (by decide +kernel)⟩
theorem lw_p46 : lw_okq (⟨"OverflowRowsModel", "thingsOn", "(II)I"⟩, 13) := ⟨⟨by decide +kernel, by decide +kernel⟩, List.mem_of_getElem? (i := 459) (by decide +kernel), List.mem_of_getElem? (i := 680) (by decide +kernel), List.mem_of_getElem? (i := 681) (by decide +kernel)⟩
theorem lw_p47 : lw_okq (⟨"OverflowRowsModel", "thingsOf", "(I)I"⟩, 13) := ⟨⟨by decide +kernel, by decide +kernel⟩, List.mem_of_getElem? (i := 459) (by decide +kernel), List.mem_of_getElem? (i := 692) (by decide +kernel), List.mem_of_getElem? (i := 693) (by decide +kernel)⟩
def lw_privs_3 : List (MethodName × Nat) := [(⟨"OverflowRowsModel", "writeAgain", "(I)Z"⟩, 13), (⟨"OverflowRowsModel", "dropPieces", "(I)V"⟩, 13), (⟨"OverflowRowsModel", "findPieces", "(I)V"⟩, 13), (⟨"OverflowRowsModel", "placeForHead", "(II)I"⟩, 13), (⟨"OverflowRowsModel", "takeText", "(I)V"⟩, 13), (⟨"OverflowRowsModel", "letterAt", "(II)I"⟩, 13), (⟨"OverflowRowsModel", "cellsOfRow", "(I)I"⟩, 13), (⟨"OverflowRowsModel", "headOf", "(I)I"⟩, 13), (⟨"OverflowRowsModel", "hasMoved", "(I)Z"⟩, 13), (⟨"OverflowRowsModel", "packs", "()Z"⟩, 13), (⟨"OverflowRowsModel", "keyAt", "(I)I"⟩, 13), (⟨"OverflowRowsModel", "pagesWith", "()I"⟩, 13), (⟨"OverflowRowsModel", "slotsOf", "(I)I"⟩, 13), (⟨"OverflowRowsModel", "costOf", "(I)I"⟩, 13), (⟨"OverflowRowsModel", "thingsOn", "(II)I"⟩, 13), (⟨"OverflowRowsModel", "thingsOf", "(I)I"⟩, 13)]
theorem lw_r3 : ∀ q ∈ lw_privs_3, lw_okq q := List.forall_mem_cons.mpr ⟨lw_p32, List.forall_mem_cons.mpr ⟨lw_p33, List.forall_mem_cons.mpr ⟨lw_p34, List.forall_mem_cons.mpr ⟨lw_p35, List.forall_mem_cons.mpr ⟨lw_p36, List.forall_mem_cons.mpr ⟨lw_p37, List.forall_mem_cons.mpr ⟨lw_p38, List.forall_mem_cons.mpr ⟨lw_p39, List.forall_mem_cons.mpr ⟨lw_p40, List.forall_mem_cons.mpr ⟨lw_p41, List.forall_mem_cons.mpr ⟨lw_p42, List.forall_mem_cons.mpr ⟨lw_p43, List.forall_mem_cons.mpr ⟨lw_p44, List.forall_mem_cons.mpr ⟨lw_p45, List.forall_mem_cons.mpr ⟨lw_p46, List.forall_mem_cons.mpr ⟨lw_p47, fun _ h => absurd h List.not_mem_nil⟩⟩⟩⟩⟩⟩⟩⟩⟩⟩⟩⟩⟩⟩⟩⟩
theorem lw_p48 : lw_okq (⟨"OverflowRowsModel", "allFree", "()I"⟩, 13) := ⟨⟨by decide +kernel, by decide +kernel⟩, List.mem_of_getElem? (i := 459) (by decide +kernel), List.mem_of_getElem? (i := 696) (by decide +kernel), List.mem_of_getElem? (i := 697) (by decide +kernel)⟩
theorem lw_p49 : lw_okq (⟨"OverflowRowsModel", "sumOfCosts", "()I"⟩, 13) := ⟨⟨by decide +kernel, by decide +kernel⟩, List.mem_of_getElem? (i := 459) (by decide +kernel), List.mem_of_getElem? (i := 700) (by decide +kernel), List.mem_of_getElem? (i := 701) (by decide +kernel)⟩
theorem lw_p50 : lw_okq (⟨"OverflowRowsModel", "allLetters", "()I"⟩, 13) := ⟨⟨by decide +kernel, by decide +kernel⟩, List.mem_of_getElem? (i := 459) (by decide +kernel), List.mem_of_getElem? (i := 704) (by decide +kernel), List.mem_of_getElem? (i := 705) (by decide +kernel)⟩
theorem lw_p51 : lw_okq (⟨"OverflowRowsModel", "greatestCost", "()I"⟩, 13) := ⟨⟨by decide +kernel, by decide +kernel⟩, List.mem_of_getElem? (i := 459) (by decide +kernel), List.mem_of_getElem? (i := 708) (by decide +kernel), List.mem_of_getElem? (i := 709) (by decide +kernel)⟩
theorem lw_p52 : lw_okq (⟨"OverflowRowsModel", "packedWith", "(II)I"⟩, 13) := ⟨⟨by decide +kernel, by decide +kernel⟩, List.mem_of_getElem? (i := 459) (by decide +kernel), List.mem_of_getElem? (i := 720) (by decide +kernel), List.mem_of_getElem? (i := 721) (by decide +kernel)⟩
def lw_privs_4 : List (MethodName × Nat) := [(⟨"OverflowRowsModel", "allFree", "()I"⟩, 13), (⟨"OverflowRowsModel", "sumOfCosts", "()I"⟩, 13), (⟨"OverflowRowsModel", "allLetters", "()I"⟩, 13), (⟨"OverflowRowsModel", "greatestCost", "()I"⟩, 13), (⟨"OverflowRowsModel", "packedWith", "(II)I"⟩, 13)]
theorem lw_r4 : ∀ q ∈ lw_privs_4, lw_okq q := List.forall_mem_cons.mpr ⟨lw_p48, List.forall_mem_cons.mpr ⟨lw_p49, List.forall_mem_cons.mpr ⟨lw_p50, List.forall_mem_cons.mpr ⟨lw_p51, List.forall_mem_cons.mpr ⟨lw_p52, fun _ h => absurd h List.not_mem_nil⟩⟩⟩⟩⟩
def lw_privs : List (MethodName × Nat) := lw_privs_1 ++ (lw_privs_2 ++ (lw_privs_3 ++ (lw_privs_4)))
def lw_tbl : List Cond := k2_sels lw_privs ++ tables_1
theorem lw_privs_ok : ∀ q ∈ lw_privs, lw_okq q := by
  show ∀ q ∈ lw_privs_1 ++ (lw_privs_2 ++ (lw_privs_3 ++ (lw_privs_4))), lw_okq q
  exact List.forall_mem_append.mpr ⟨lw_r1, List.forall_mem_append.mpr ⟨lw_r2, List.forall_mem_append.mpr ⟨lw_r3, lw_r4⟩⟩⟩
end
section
def RX0 : String := "OverflowRows$Book"
def TX0 : u_T := fun k => match k with
  | 0 => ("OverflowRows$Book", "headMost", "I", false)
  | 1 => ("OverflowRows$Book", "pieceMost", "I", false)
  | 2 => ("OverflowRows$Book", "rows", "I", false)
  | 3 => ("OverflowRows$Book", "pages", "LOverflowRows$Pages;", true)
  | 4 => ("OverflowRows$Book", "numberOf", "[I", true)
  | 5 => ("OverflowRows$Book", "keyOf", "[I", true)
  | 6 => ("OverflowRows$Book", "lettersOf", "[I", true)
  | 7 => ("OverflowRows$Book", "homeOf", "[I", true)
  | 8 => ("OverflowRows$Book", "headOf", "[I", true)
  | 9 => ("OverflowRows$Book", "piecesOf", "[I", true)
  | 10 => ("OverflowRows$Book", "pieceOf", "[[I", true)
  | _ => ("OverflowRows$Book", "text", "[[I", true)
def tyX0 : Nat → FieldType := fun k => match k with
  | 0 => .int
  | 1 => .int
  | 2 => .int
  | 3 => .object "OverflowRows$Pages"
  | 4 => .array .int
  | 5 => .array .int
  | 6 => .array .int
  | 7 => .array .int
  | 8 => .array .int
  | 9 => .array .int
  | 10 => .array (.array .int)
  | _ => .array (.array .int)
abbrev wsX00 : List Cond := u_ws RX0 TX0 12
theorem nmX0 : ∀ a, a < 12 → ∀ b, b < 12 → a ≠ b → (TX0 a).2.1 ≠ (TX0 b).2.1 := by decide +kernel
theorem tyX0_ok : ∀ k, k < 12 → parseFieldDescriptor (TX0 k).2.2.1 = some (tyX0 k) := by decide +kernel
abbrev cX0_init : ByteArray := prog_2_method_1_code
def yX0_init : MethodName := ⟨RX0, "<init>", "()V"⟩
abbrev cX0_copyFrom : ByteArray := prog_2_method_2_code
def yX0_copyFrom : MethodName := ⟨RX0, "copyFrom", "(LOverflowRows$Book;)V"⟩
abbrev cX0_rowOf : ByteArray := prog_2_method_3_code
def yX0_rowOf : MethodName := ⟨RX0, "rowOf", "(I)I"⟩
abbrev cX0_layRow : ByteArray := prog_2_method_4_code
def yX0_layRow : MethodName := ⟨RX0, "layRow", "(II)I"⟩
abbrev cX0_addRow : ByteArray := prog_2_method_5_code
def yX0_addRow : MethodName := ⟨RX0, "addRow", "(I)I"⟩
abbrev cX0_layNew : ByteArray := prog_2_method_6_code
def yX0_layNew : MethodName := ⟨RX0, "layNew", "(I)Z"⟩
abbrev cX0_layAgain : ByteArray := prog_2_method_7_code
def yX0_layAgain : MethodName := ⟨RX0, "layAgain", "(I)Z"⟩
abbrev cX0_layHeadAgain : ByteArray := prog_2_method_8_code
def yX0_layHeadAgain : MethodName := ⟨RX0, "layHeadAgain", "(I)I"⟩
abbrev cX0_layPieces : ByteArray := prog_2_method_9_code
def yX0_layPieces : MethodName := ⟨RX0, "layPieces", "(I)Z"⟩
abbrev cX0_liftPieces : ByteArray := prog_2_method_10_code
def yX0_liftPieces : MethodName := ⟨RX0, "liftPieces", "(I)V"⟩
abbrev cX0_headLetters : ByteArray := prog_2_method_11_code
def yX0_headLetters : MethodName := ⟨RX0, "headLetters", "(I)I"⟩
abbrev cX0_headCells : ByteArray := prog_2_method_12_code
def yX0_headCells : MethodName := ⟨RX0, "headCells", "(I)I"⟩
abbrev cX0_removeRow : ByteArray := prog_2_method_13_code
def yX0_removeRow : MethodName := ⟨RX0, "removeRow", "(I)V"⟩
abbrev cX0_packAll : ByteArray := prog_2_method_14_code
def yX0_packAll : MethodName := ⟨RX0, "packAll", "()Z"⟩
abbrev cX0_hasMoved : ByteArray := prog_2_method_15_code
def yX0_hasMoved : MethodName := ⟨RX0, "hasMoved", "(I)Z"⟩
abbrev cX0_costOf : ByteArray := prog_2_method_16_code
def yX0_costOf : MethodName := ⟨RX0, "costOf", "(I)I"⟩
abbrev cX0_cellsOf : ByteArray := prog_2_method_17_code
def yX0_cellsOf : MethodName := ⟨RX0, "cellsOf", "(I)I"⟩
abbrev cX0_costInAll : ByteArray := prog_2_method_18_code
def yX0_costInAll : MethodName := ⟨RX0, "costInAll", "()I"⟩
abbrev cX0_greatestCost : ByteArray := prog_2_method_19_code
def yX0_greatestCost : MethodName := ⟨RX0, "greatestCost", "()I"⟩
abbrev cX0_lettersInAll : ByteArray := prog_2_method_20_code
def yX0_lettersInAll : MethodName := ⟨RX0, "lettersInAll", "()I"⟩
def RX1 : String := "OverflowRows$History"
def TX1 : u_T := fun k => match k with
  | 0 => ("OverflowRows$History", "states", "[LOverflowRows$Book;", true)
  | 1 => ("OverflowRows$History", "held", "I", false)
  | _ => ("OverflowRows$History", "oldest", "I", false)
def tyX1 : Nat → FieldType := fun k => match k with
  | 0 => .array (.object "OverflowRows$Book")
  | 1 => .int
  | _ => .int
abbrev wsX10 : List Cond := u_ws RX1 TX1 3
theorem nmX1 : ∀ a, a < 3 → ∀ b, b < 3 → a ≠ b → (TX1 a).2.1 ≠ (TX1 b).2.1 := by decide +kernel
theorem tyX1_ok : ∀ k, k < 3 → parseFieldDescriptor (TX1 k).2.2.1 = some (tyX1 k) := by decide +kernel
abbrev cX1_init : ByteArray := prog_3_method_1_code
def yX1_init : MethodName := ⟨RX1, "<init>", "()V"⟩
abbrev cX1_record : ByteArray := prog_3_method_2_code
def yX1_record : MethodName := ⟨RX1, "record", "(LOverflowRows$Book;)V"⟩
abbrev cX1_giveBack : ByteArray := prog_3_method_3_code
def yX1_giveBack : MethodName := ⟨RX1, "giveBack", "(LOverflowRows$Book;)V"⟩
def RX2 : String := "OverflowRows$Pad"
def TX2 : u_T := fun k => match k with
  | 0 => ("OverflowRows$Pad", "signs", "[I", true)
  | 1 => ("OverflowRows$Pad", "length", "I", false)
  | 2 => ("OverflowRows$Pad", "rows", "I", false)
  | 3 => ("OverflowRows$Pad", "keyOf", "[I", true)
  | 4 => ("OverflowRows$Pad", "textOf", "[I", true)
  | 5 => ("OverflowRows$Pad", "lettersOf", "[I", true)
  | 6 => ("OverflowRows$Pad", "inText", "Z", false)
  | 7 => ("OverflowRows$Pad", "digits", "I", false)
  | _ => ("OverflowRows$Pad", "number", "I", false)
def tyX2 : Nat → FieldType := fun k => match k with
  | 0 => .array .int
  | 1 => .int
  | 2 => .int
  | 3 => .array .int
  | 4 => .array .int
  | 5 => .array .int
  | 6 => .boolean
  | 7 => .int
  | _ => .int
abbrev wsX20 : List Cond := u_ws RX2 TX2 9
theorem nmX2 : ∀ a, a < 9 → ∀ b, b < 9 → a ≠ b → (TX2 a).2.1 ≠ (TX2 b).2.1 := by decide +kernel
theorem tyX2_ok : ∀ k, k < 9 → parseFieldDescriptor (TX2 k).2.2.1 = some (tyX2 k) := by decide +kernel
abbrev cX2_init : ByteArray := prog_4_method_1_code
def yX2_init : MethodName := ⟨RX2, "<init>", "()V"⟩
abbrev cX2_read : ByteArray := prog_4_method_2_code
def yX2_read : MethodName := ⟨RX2, "read", "()I"⟩
abbrev cX2_awaitKey : ByteArray := prog_4_method_3_code
def yX2_awaitKey : MethodName := ⟨RX2, "awaitKey", "()V"⟩
abbrev cX2_readInKey : ByteArray := prog_4_method_4_code
def yX2_readInKey : MethodName := ⟨RX2, "readInKey", "(II)Z"⟩
abbrev cX2_startText : ByteArray := prog_4_method_5_code
def yX2_startText : MethodName := ⟨RX2, "startText", "(I)Z"⟩
abbrev cX2_readInText : ByteArray := prog_4_method_6_code
def yX2_readInText : MethodName := ⟨RX2, "readInText", "(I)Z"⟩
def RX3 : String := "OverflowRows$Pages"
def TX3 : u_T := fun k => match k with
  | 0 => ("OverflowRows$Pages", "kind", "[I", true)
  | 1 => ("OverflowRows$Pages", "owner", "[I", true)
  | 2 => ("OverflowRows$Pages", "cells", "[I", true)
  | _ => ("OverflowRows$Pages", "free", "[I", true)
def tyX3 : Nat → FieldType := fun k => match k with
  | 0 => .array .int
  | 1 => .array .int
  | 2 => .array .int
  | _ => .array .int
abbrev wsX30 : List Cond := u_ws RX3 TX3 4
theorem nmX3 : ∀ a, a < 4 → ∀ b, b < 4 → a ≠ b → (TX3 a).2.1 ≠ (TX3 b).2.1 := by decide +kernel
theorem tyX3_ok : ∀ k, k < 4 → parseFieldDescriptor (TX3 k).2.2.1 = some (tyX3 k) := by decide +kernel
abbrev cX3_init : ByteArray := prog_5_method_1_code
def yX3_init : MethodName := ⟨RX3, "<init>", "()V"⟩
abbrev cX3_copyFrom : ByteArray := prog_5_method_2_code
def yX3_copyFrom : MethodName := ⟨RX3, "copyFrom", "(LOverflowRows$Pages;)V"⟩
abbrev cX3_clear : ByteArray := prog_5_method_3_code
def yX3_clear : MethodName := ⟨RX3, "clear", "()V"⟩
abbrev cX3_hasRoom : ByteArray := prog_5_method_4_code
def yX3_hasRoom : MethodName := ⟨RX3, "hasRoom", "(II)Z"⟩
abbrev cX3_occupy : ByteArray := prog_5_method_5_code
def yX3_occupy : MethodName := ⟨RX3, "occupy", "(IIII)V"⟩
abbrev cX3_vacate : ByteArray := prog_5_method_6_code
def yX3_vacate : MethodName := ⟨RX3, "vacate", "(I)V"⟩
abbrev cX3_place : ByteArray := prog_5_method_7_code
def yX3_place : MethodName := ⟨RX3, "place", "(III)I"⟩
abbrev cX3_lowestGap : ByteArray := prog_5_method_8_code
def yX3_lowestGap : MethodName := ⟨RX3, "lowestGap", "(I)I"⟩
abbrev cX3_slotsOf : ByteArray := prog_5_method_9_code
def yX3_slotsOf : MethodName := ⟨RX3, "slotsOf", "(I)I"⟩
abbrev cX3_thingsOn : ByteArray := prog_5_method_10_code
def yX3_thingsOn : MethodName := ⟨RX3, "thingsOn", "(II)I"⟩
abbrev cX3_thingsInAll : ByteArray := prog_5_method_11_code
def yX3_thingsInAll : MethodName := ⟨RX3, "thingsInAll", "(I)I"⟩
abbrev cX3_pagesInUse : ByteArray := prog_5_method_12_code
def yX3_pagesInUse : MethodName := ⟨RX3, "pagesInUse", "()I"⟩
abbrev cX3_freeInAll : ByteArray := prog_5_method_13_code
def yX3_freeInAll : MethodName := ⟨RX3, "freeInAll", "()I"⟩
def RX4 : String := "OverflowRows"
def TX4 : u_T := fun k => match k with
  | 0 => ("OverflowRows", "pad", "LOverflowRows$Pad;", true)
  | 1 => ("OverflowRows", "history", "LOverflowRows$History;", true)
  | 2 => ("OverflowRows", "saved", "[LOverflowRows$Book;", true)
  | 3 => ("OverflowRows", "now", "LOverflowRows$Book;", false)
  | _ => ("OverflowRows", "trial", "LOverflowRows$Book;", false)
def tyX4 : Nat → FieldType := fun k => match k with
  | 0 => .object "OverflowRows$Pad"
  | 1 => .object "OverflowRows$History"
  | 2 => .array (.object "OverflowRows$Book")
  | 3 => .object "OverflowRows$Book"
  | _ => .object "OverflowRows$Book"
abbrev wsX40 : List Cond := u_ws RX4 TX4 5
theorem nmX4 : ∀ a, a < 5 → ∀ b, b < 5 → a ≠ b → (TX4 a).2.1 ≠ (TX4 b).2.1 := by decide +kernel
theorem tyX4_ok : ∀ k, k < 5 → parseFieldDescriptor (TX4 k).2.2.1 = some (tyX4 k) := by decide +kernel
abbrev cX4_init : ByteArray := prog_1_method_1_code
def yX4_init : MethodName := ⟨RX4, "<init>", "()V"⟩
abbrev cX4_set : ByteArray := prog_1_method_2_code
def yX4_set : MethodName := ⟨RX4, "set", "(II)I"⟩
abbrev cX4_setHead : ByteArray := prog_1_method_3_code
def yX4_setHead : MethodName := ⟨RX4, "setHead", "(I)I"⟩
abbrev cX4_setPiece : ByteArray := prog_1_method_4_code
def yX4_setPiece : MethodName := ⟨RX4, "setPiece", "(I)I"⟩
abbrev cX4_write : ByteArray := prog_1_method_5_code
def yX4_write : MethodName := ⟨RX4, "write", "()I"⟩
abbrev cX4_writePadRow : ByteArray := prog_1_method_6_code
def yX4_writePadRow : MethodName := ⟨RX4, "writePadRow", "(I)Z"⟩
abbrev cX4_append : ByteArray := prog_1_method_7_code
def yX4_append : MethodName := ⟨RX4, "append", "(II)I"⟩
abbrev cX4_delete : ByteArray := prog_1_method_8_code
def yX4_delete : MethodName := ⟨RX4, "delete", "(I)I"⟩
abbrev cX4_pack : ByteArray := prog_1_method_9_code
def yX4_pack : MethodName := ⟨RX4, "pack", "()I"⟩
abbrev cX4_tryPacking : ByteArray := prog_1_method_10_code
def yX4_tryPacking : MethodName := ⟨RX4, "tryPacking", "(I)Z"⟩
abbrev cX4_takeTrial : ByteArray := prog_1_method_11_code
def yX4_takeTrial : MethodName := ⟨RX4, "takeTrial", "()V"⟩
abbrev cX4_row : ByteArray := prog_1_method_12_code
def yX4_row : MethodName := ⟨RX4, "row", "(II)I"⟩
abbrev cX4_letter : ByteArray := prog_1_method_13_code
def yX4_letter : MethodName := ⟨RX4, "letter", "(II)I"⟩
abbrev cX4_piece : ByteArray := prog_1_method_14_code
def yX4_piece : MethodName := ⟨RX4, "piece", "(III)I"⟩
abbrev cX4_page : ByteArray := prog_1_method_15_code
def yX4_page : MethodName := ⟨RX4, "page", "(II)I"⟩
abbrev cX4_slot : ByteArray := prog_1_method_16_code
def yX4_slot : MethodName := ⟨RX4, "slot", "(III)I"⟩
abbrev cX4_count : ByteArray := prog_1_method_17_code
def yX4_count : MethodName := ⟨RX4, "count", "(I)I"⟩
abbrev cX4_key : ByteArray := prog_1_method_18_code
def yX4_key : MethodName := ⟨RX4, "key", "(I)I"⟩
abbrev cX4_ifPacked : ByteArray := prog_1_method_19_code
def yX4_ifPacked : MethodName := ⟨RX4, "ifPacked", "(II)I"⟩
abbrev cX4_bestHead : ByteArray := prog_1_method_20_code
def yX4_bestHead : MethodName := ⟨RX4, "bestHead", "()I"⟩
abbrev cX4_most : ByteArray := prog_1_method_21_code
def yX4_most : MethodName := ⟨RX4, "most", "(I)I"⟩
abbrev cX4_put : ByteArray := prog_1_method_22_code
def yX4_put : MethodName := ⟨RX4, "put", "(J)I"⟩
abbrev cX4_signsIn : ByteArray := prog_1_method_23_code
def yX4_signsIn : MethodName := ⟨RX4, "signsIn", "(J)I"⟩
abbrev cX4_signOf : ByteArray := prog_1_method_24_code
def yX4_signOf : MethodName := ⟨RX4, "signOf", "(JI)I"⟩
abbrev cX4_wipe : ByteArray := prog_1_method_25_code
def yX4_wipe : MethodName := ⟨RX4, "wipe", "()I"⟩
abbrev cX4_fault : ByteArray := prog_1_method_26_code
def yX4_fault : MethodName := ⟨RX4, "fault", "()I"⟩
abbrev cX4_undo : ByteArray := prog_1_method_27_code
def yX4_undo : MethodName := ⟨RX4, "undo", "()I"⟩
abbrev cX4_save : ByteArray := prog_1_method_28_code
def yX4_save : MethodName := ⟨RX4, "save", "(I)I"⟩
abbrev cX4_restore : ByteArray := prog_1_method_29_code
def yX4_restore : MethodName := ⟨RX4, "restore", "(I)I"⟩
def RX5 : String := "OverflowRowsModel"
def TX5 : u_T := fun k => match k with
  | 0 => ("OverflowRowsModel", "state", "[I", true)
  | 1 => ("OverflowRowsModel", "kept", "[I", true)
  | 2 => ("OverflowRowsModel", "before", "[I", true)
  | 3 => ("OverflowRowsModel", "history", "[I", true)
  | 4 => ("OverflowRowsModel", "recorded", "I", false)
  | 5 => ("OverflowRowsModel", "saved", "[I", true)
  | 6 => ("OverflowRowsModel", "isSaved", "[I", true)
  | 7 => ("OverflowRowsModel", "pad", "[I", true)
  | 8 => ("OverflowRowsModel", "padLength", "I", false)
  | 9 => ("OverflowRowsModel", "told", "[I", true)
  | 10 => ("OverflowRowsModel", "toldMany", "I", false)
  | 11 => ("OverflowRowsModel", "pieces", "[I", true)
  | _ => ("OverflowRowsModel", "piecesMany", "I", false)
def tyX5 : Nat → FieldType := fun k => match k with
  | 0 => .array .int
  | 1 => .array .int
  | 2 => .array .int
  | 3 => .array .int
  | 4 => .int
  | 5 => .array .int
  | 6 => .array .int
  | 7 => .array .int
  | 8 => .int
  | 9 => .array .int
  | 10 => .int
  | 11 => .array .int
  | _ => .int
abbrev wsX50 : List Cond := u_ws RX5 TX5 13
theorem nmX5 : ∀ a, a < 13 → ∀ b, b < 13 → a ≠ b → (TX5 a).2.1 ≠ (TX5 b).2.1 := by decide +kernel
theorem tyX5_ok : ∀ k, k < 13 → parseFieldDescriptor (TX5 k).2.2.1 = some (tyX5 k) := by decide +kernel
abbrev cX5_init : ByteArray := prog_7_method_1_code
def yX5_init : MethodName := ⟨RX5, "<init>", "()V"⟩
abbrev cX5_moves : ByteArray := prog_7_method_3_code
def yX5_moves : MethodName := ⟨RX5, "moves", "([II[II)V"⟩
abbrev cX5_within : ByteArray := prog_7_method_4_code
def yX5_within : MethodName := ⟨RX5, "within", "(III)Z"⟩
abbrev cX5_record : ByteArray := prog_7_method_5_code
def yX5_record : MethodName := ⟨RX5, "record", "([I)V"⟩
abbrev cX5_kindOf : ByteArray := prog_7_method_6_code
def yX5_kindOf : MethodName := ⟨RX5, "kindOf", "(I)I"⟩
abbrev cX5_rowOf : ByteArray := prog_7_method_7_code
def yX5_rowOf : MethodName := ⟨RX5, "rowOf", "(I)I"⟩
abbrev cX5_numberOf : ByteArray := prog_7_method_8_code
def yX5_numberOf : MethodName := ⟨RX5, "numberOf", "(I)I"⟩
abbrev cX5_lettersOf : ByteArray := prog_7_method_9_code
def yX5_lettersOf : MethodName := ⟨RX5, "lettersOf", "(I)I"⟩
abbrev cX5_thing : ByteArray := prog_7_method_10_code
def yX5_thing : MethodName := ⟨RX5, "thing", "(IIII)I"⟩
abbrev cX5_cellsOf : ByteArray := prog_7_method_11_code
def yX5_cellsOf : MethodName := ⟨RX5, "cellsOf", "(I)I"⟩
abbrev cX5_freeOf : ByteArray := prog_7_method_12_code
def yX5_freeOf : MethodName := ⟨RX5, "freeOf", "(I)I"⟩
abbrev cX5_slotsOf : ByteArray := prog_7_method_13_code
def yX5_slotsOf : MethodName := ⟨RX5, "slotsOf", "(I)I"⟩
abbrev cX5_thingsOn : ByteArray := prog_7_method_14_code
def yX5_thingsOn : MethodName := ⟨RX5, "thingsOn", "(II)I"⟩
abbrev cX5_lowestEmpty : ByteArray := prog_7_method_15_code
def yX5_lowestEmpty : MethodName := ⟨RX5, "lowestEmpty", "(I)I"⟩
abbrev cX5_placed : ByteArray := prog_7_method_16_code
def yX5_placed : MethodName := ⟨RX5, "placed", "(I)I"⟩
abbrev cX5_part : ByteArray := prog_7_method_17_code
def yX5_part : MethodName := ⟨RX5, "part", "(II)I"⟩
abbrev cX5_setPart : ByteArray := prog_7_method_18_code
def yX5_setPart : MethodName := ⟨RX5, "setPart", "(III)V"⟩
abbrev cX5_rowWith : ByteArray := prog_7_method_19_code
def yX5_rowWith : MethodName := ⟨RX5, "rowWith", "(I)I"⟩
abbrev cX5_letterAt : ByteArray := prog_7_method_20_code
def yX5_letterAt : MethodName := ⟨RX5, "letterAt", "(II)I"⟩
abbrev cX5_hasMoved : ByteArray := prog_7_method_21_code
def yX5_hasMoved : MethodName := ⟨RX5, "hasMoved", "(I)Z"⟩
abbrev cX5_findPieces : ByteArray := prog_7_method_22_code
def yX5_findPieces : MethodName := ⟨RX5, "findPieces", "(I)V"⟩
abbrev cX5_dropPieces : ByteArray := prog_7_method_23_code
def yX5_dropPieces : MethodName := ⟨RX5, "dropPieces", "(I)V"⟩
abbrev cX5_headOf : ByteArray := prog_7_method_24_code
def yX5_headOf : MethodName := ⟨RX5, "headOf", "(I)I"⟩
abbrev cX5_costOf : ByteArray := prog_7_method_25_code
def yX5_costOf : MethodName := ⟨RX5, "costOf", "(I)I"⟩
abbrev cX5_cellsOfRow : ByteArray := prog_7_method_26_code
def yX5_cellsOfRow : MethodName := ⟨RX5, "cellsOfRow", "(I)I"⟩
abbrev cX5_takeText : ByteArray := prog_7_method_27_code
def yX5_takeText : MethodName := ⟨RX5, "takeText", "(I)V"⟩
abbrev cX5_headLetters : ByteArray := prog_7_method_28_code
def yX5_headLetters : MethodName := ⟨RX5, "headLetters", "()I"⟩
abbrev cX5_setText : ByteArray := prog_7_method_29_code
def yX5_setText : MethodName := ⟨RX5, "setText", "(I)V"⟩
abbrev cX5_putPieces : ByteArray := prog_7_method_30_code
def yX5_putPieces : MethodName := ⟨RX5, "putPieces", "(I)Z"⟩
abbrev cX5_writeNew : ByteArray := prog_7_method_31_code
def yX5_writeNew : MethodName := ⟨RX5, "writeNew", "(I)Z"⟩
abbrev cX5_placeForHead : ByteArray := prog_7_method_32_code
def yX5_placeForHead : MethodName := ⟨RX5, "placeForHead", "(II)I"⟩
abbrev cX5_writeAgain : ByteArray := prog_7_method_33_code
def yX5_writeAgain : MethodName := ⟨RX5, "writeAgain", "(I)Z"⟩
abbrev cX5_freeRow : ByteArray := prog_7_method_34_code
def yX5_freeRow : MethodName := ⟨RX5, "freeRow", "()I"⟩
abbrev cX5_writes : ByteArray := prog_7_method_35_code
def yX5_writes : MethodName := ⟨RX5, "writes", "(I)Z"⟩
abbrev cX5_isValue : ByteArray := prog_7_method_36_code
def yX5_isValue : MethodName := ⟨RX5, "isValue", "(II)Z"⟩
abbrev cX5_set : ByteArray := prog_7_method_37_code
def yX5_set : MethodName := ⟨RX5, "set", "(II)I"⟩
abbrev cX5_write : ByteArray := prog_7_method_38_code
def yX5_write : MethodName := ⟨RX5, "write", "()I"⟩
abbrev cX5_append : ByteArray := prog_7_method_39_code
def yX5_append : MethodName := ⟨RX5, "append", "(II)I"⟩
abbrev cX5_delete : ByteArray := prog_7_method_40_code
def yX5_delete : MethodName := ⟨RX5, "delete", "(I)I"⟩
abbrev cX5_keyAt : ByteArray := prog_7_method_41_code
def yX5_keyAt : MethodName := ⟨RX5, "keyAt", "(I)I"⟩
abbrev cX5_packs : ByteArray := prog_7_method_42_code
def yX5_packs : MethodName := ⟨RX5, "packs", "()Z"⟩
abbrev cX5_pagesWith : ByteArray := prog_7_method_43_code
def yX5_pagesWith : MethodName := ⟨RX5, "pagesWith", "()I"⟩
abbrev cX5_pack : ByteArray := prog_7_method_44_code
def yX5_pack : MethodName := ⟨RX5, "pack", "()I"⟩
abbrev cX5_row : ByteArray := prog_7_method_45_code
def yX5_row : MethodName := ⟨RX5, "row", "(II)I"⟩
abbrev cX5_letter : ByteArray := prog_7_method_46_code
def yX5_letter : MethodName := ⟨RX5, "letter", "(II)I"⟩
abbrev cX5_piece : ByteArray := prog_7_method_47_code
def yX5_piece : MethodName := ⟨RX5, "piece", "(III)I"⟩
abbrev cX5_page : ByteArray := prog_7_method_48_code
def yX5_page : MethodName := ⟨RX5, "page", "(II)I"⟩
abbrev cX5_slot : ByteArray := prog_7_method_49_code
def yX5_slot : MethodName := ⟨RX5, "slot", "(III)I"⟩
abbrev cX5_thingsOf : ByteArray := prog_7_method_50_code
def yX5_thingsOf : MethodName := ⟨RX5, "thingsOf", "(I)I"⟩
abbrev cX5_allFree : ByteArray := prog_7_method_51_code
def yX5_allFree : MethodName := ⟨RX5, "allFree", "()I"⟩
abbrev cX5_sumOfCosts : ByteArray := prog_7_method_52_code
def yX5_sumOfCosts : MethodName := ⟨RX5, "sumOfCosts", "()I"⟩
abbrev cX5_greatestCost : ByteArray := prog_7_method_53_code
def yX5_greatestCost : MethodName := ⟨RX5, "greatestCost", "()I"⟩
abbrev cX5_allLetters : ByteArray := prog_7_method_54_code
def yX5_allLetters : MethodName := ⟨RX5, "allLetters", "()I"⟩
abbrev cX5_count : ByteArray := prog_7_method_55_code
def yX5_count : MethodName := ⟨RX5, "count", "(I)I"⟩
abbrev cX5_key : ByteArray := prog_7_method_56_code
def yX5_key : MethodName := ⟨RX5, "key", "(I)I"⟩
abbrev cX5_packedWith : ByteArray := prog_7_method_57_code
def yX5_packedWith : MethodName := ⟨RX5, "packedWith", "(II)I"⟩
abbrev cX5_ifPacked : ByteArray := prog_7_method_58_code
def yX5_ifPacked : MethodName := ⟨RX5, "ifPacked", "(II)I"⟩
abbrev cX5_bestHead : ByteArray := prog_7_method_59_code
def yX5_bestHead : MethodName := ⟨RX5, "bestHead", "()I"⟩
abbrev cX5_most : ByteArray := prog_7_method_60_code
def yX5_most : MethodName := ⟨RX5, "most", "(I)I"⟩
abbrev cX5_put : ByteArray := prog_7_method_61_code
def yX5_put : MethodName := ⟨RX5, "put", "(J)I"⟩
abbrev cX5_wipe : ByteArray := prog_7_method_62_code
def yX5_wipe : MethodName := ⟨RX5, "wipe", "()I"⟩
abbrev cX5_findFault : ByteArray := prog_7_method_63_code
def yX5_findFault : MethodName := ⟨RX5, "findFault", "()I"⟩
abbrev cX5_fault : ByteArray := prog_7_method_64_code
def yX5_fault : MethodName := ⟨RX5, "fault", "()I"⟩
abbrev cX5_undo : ByteArray := prog_7_method_65_code
def yX5_undo : MethodName := ⟨RX5, "undo", "()I"⟩
abbrev cX5_save : ByteArray := prog_7_method_66_code
def yX5_save : MethodName := ⟨RX5, "save", "(I)I"⟩
abbrev cX5_restore : ByteArray := prog_7_method_67_code
def yX5_restore : MethodName := ⟨RX5, "restore", "(I)I"⟩
def RJ9 : String := "java/lang/Math"
def TJ9 : u_T := fun k => match k with
  | _ => ("", "", "", false)
def tyJ9 : Nat → FieldType := fun k => match k with
  | _ => .int
abbrev wsJ90 : List Cond := u_ws RJ9 TJ9 0
theorem nmJ9 : ∀ a, a < 0 → ∀ b, b < 0 → a ≠ b → (TJ9 a).2.1 ≠ (TJ9 b).2.1 := by decide +kernel
theorem tyJ9_ok : ∀ k, k < 0 → parseFieldDescriptor (TJ9 k).2.2.1 = some (tyJ9 k) := by decide +kernel
abbrev cJ9_max_7cf53 : ByteArray := prog_8_method_65_code
def yJ9_max_7cf53 : MethodName := ⟨RJ9, "max", "(II)I"⟩
abbrev cJ9_min_7cf53 : ByteArray := prog_8_method_69_code
def yJ9_min_7cf53 : MethodName := ⟨RJ9, "min", "(II)I"⟩
def RJ10 : String := "java/lang/System"
def TJ10 : u_T := fun k => match k with
  | _ => ("", "", "", false)
def tyJ10 : Nat → FieldType := fun k => match k with
  | _ => .int
abbrev wsJ100 : List Cond := u_ws RJ10 TJ10 0
theorem nmJ10 : ∀ a, a < 0 → ∀ b, b < 0 → a ≠ b → (TJ10 a).2.1 ≠ (TJ10 b).2.1 := by decide +kernel
theorem tyJ10_ok : ∀ k, k < 0 → parseFieldDescriptor (TJ10 k).2.2.1 = some (tyJ10 k) := by decide +kernel
def RJ7 : String := "java/util/Arrays"
def TJ7 : u_T := fun k => match k with
  | _ => ("", "", "", false)
def tyJ7 : Nat → FieldType := fun k => match k with
  | _ => .int
abbrev wsJ70 : List Cond := u_ws RJ7 TJ7 0
theorem nmJ7 : ∀ a, a < 0 → ∀ b, b < 0 → a ≠ b → (TJ7 a).2.1 ≠ (TJ7 b).2.1 := by decide +kernel
theorem tyJ7_ok : ∀ k, k < 0 → parseFieldDescriptor (TJ7 k).2.2.1 = some (tyJ7 k) := by decide +kernel
abbrev cJ7_fill_53178 : ByteArray := prog_10_method_103_code
def yJ7_fill_53178 : MethodName := ⟨RJ7, "fill", "([II)V"⟩
def RL : String := "OverflowRowsLaw"
abbrev cL_law : ByteArray := code
def yL_law : MethodName := ⟨RL, "law", "([I)Z"⟩
theorem dX0_init_0 : decode cX0_init 0 = .ok (.aload_n 0, 1) := by decide +kernel
theorem dX0_init_1 : decode cX0_init 1 = .ok (.invokespecial 3, 3) := by decide +kernel
theorem dX0_init_4 : decode cX0_init 4 = .ok (.aload_n 0, 1) := by decide +kernel
theorem dX0_init_5 : decode cX0_init 5 = .ok (.bipush 6, 2) := by decide +kernel
theorem dX0_init_7 : decode cX0_init 7 = .ok (.putfield 9, 3) := by decide +kernel
theorem dX0_init_10 : decode cX0_init 10 = .ok (.aload_n 0, 1) := by decide +kernel
theorem dX0_init_11 : decode cX0_init 11 = .ok (.bipush 8, 2) := by decide +kernel
theorem dX0_init_13 : decode cX0_init 13 = .ok (.putfield 15, 3) := by decide +kernel
theorem dX0_init_16 : decode cX0_init 16 = .ok (.aload_n 0, 1) := by decide +kernel
theorem dX0_init_17 : decode cX0_init 17 = .ok (.iconst 0, 1) := by decide +kernel
theorem dX0_init_18 : decode cX0_init 18 = .ok (.putfield 18, 3) := by decide +kernel
theorem dX0_init_21 : decode cX0_init 21 = .ok (.aload_n 0, 1) := by decide +kernel
theorem dX0_init_22 : decode cX0_init 22 = .ok (.new 21, 3) := by decide +kernel
theorem dX0_init_25 : decode cX0_init 25 = .ok (.dup, 1) := by decide +kernel
theorem dX0_init_26 : decode cX0_init 26 = .ok (.invokespecial 23, 3) := by decide +kernel
theorem dX0_init_29 : decode cX0_init 29 = .ok (.putfield 24, 3) := by decide +kernel
theorem dX0_init_32 : decode cX0_init 32 = .ok (.aload_n 0, 1) := by decide +kernel
theorem dX0_init_33 : decode cX0_init 33 = .ok (.bipush 100, 2) := by decide +kernel
theorem dX0_init_35 : decode cX0_init 35 = .ok (.newarray .int, 2) := by decide +kernel
theorem dX0_init_37 : decode cX0_init 37 = .ok (.putfield 28, 3) := by decide +kernel
theorem dX0_init_40 : decode cX0_init 40 = .ok (.aload_n 0, 1) := by decide +kernel
theorem dX0_init_41 : decode cX0_init 41 = .ok (.bipush 30, 2) := by decide +kernel
theorem dX0_init_43 : decode cX0_init 43 = .ok (.newarray .int, 2) := by decide +kernel
theorem dX0_init_45 : decode cX0_init 45 = .ok (.putfield 32, 3) := by decide +kernel
theorem dX0_init_48 : decode cX0_init 48 = .ok (.aload_n 0, 1) := by decide +kernel
theorem dX0_init_49 : decode cX0_init 49 = .ok (.bipush 30, 2) := by decide +kernel
theorem dX0_init_51 : decode cX0_init 51 = .ok (.newarray .int, 2) := by decide +kernel
theorem dX0_init_53 : decode cX0_init 53 = .ok (.putfield 35, 3) := by decide +kernel
theorem dX0_init_56 : decode cX0_init 56 = .ok (.aload_n 0, 1) := by decide +kernel
theorem dX0_init_57 : decode cX0_init 57 = .ok (.bipush 30, 2) := by decide +kernel
theorem dX0_init_59 : decode cX0_init 59 = .ok (.newarray .int, 2) := by decide +kernel
theorem dX0_init_61 : decode cX0_init 61 = .ok (.putfield 38, 3) := by decide +kernel
theorem dX0_init_64 : decode cX0_init 64 = .ok (.aload_n 0, 1) := by decide +kernel
theorem dX0_init_65 : decode cX0_init 65 = .ok (.bipush 30, 2) := by decide +kernel
theorem dX0_init_67 : decode cX0_init 67 = .ok (.newarray .int, 2) := by decide +kernel
theorem dX0_init_69 : decode cX0_init 69 = .ok (.putfield 41, 3) := by decide +kernel
theorem dX0_init_72 : decode cX0_init 72 = .ok (.aload_n 0, 1) := by decide +kernel
theorem dX0_init_73 : decode cX0_init 73 = .ok (.bipush 30, 2) := by decide +kernel
theorem dX0_init_75 : decode cX0_init 75 = .ok (.newarray .int, 2) := by decide +kernel
theorem dX0_init_77 : decode cX0_init 77 = .ok (.putfield 44, 3) := by decide +kernel
theorem dX0_init_80 : decode cX0_init 80 = .ok (.aload_n 0, 1) := by decide +kernel
theorem dX0_init_81 : decode cX0_init 81 = .ok (.bipush 30, 2) := by decide +kernel
theorem dX0_init_83 : decode cX0_init 83 = .ok (.bipush 40, 2) := by decide +kernel
theorem dX0_init_85 : decode cX0_init 85 = .ok (.multianewarray 47 2, 4) := by decide +kernel
theorem dX0_init_89 : decode cX0_init 89 = .ok (.putfield 49, 3) := by decide +kernel
theorem dX0_init_92 : decode cX0_init 92 = .ok (.aload_n 0, 1) := by decide +kernel
theorem dX0_init_93 : decode cX0_init 93 = .ok (.bipush 30, 2) := by decide +kernel
theorem dX0_init_95 : decode cX0_init 95 = .ok (.bipush 40, 2) := by decide +kernel
theorem dX0_init_97 : decode cX0_init 97 = .ok (.multianewarray 47 2, 4) := by decide +kernel
theorem dX0_init_101 : decode cX0_init 101 = .ok (.putfield 52, 3) := by decide +kernel
theorem dX0_init_104 : decode cX0_init 104 = .ok (.aload_n 0, 1) := by decide +kernel
theorem dX0_init_105 : decode cX0_init 105 = .ok (.getfield 28, 3) := by decide +kernel
theorem dX0_init_108 : decode cX0_init 108 = .ok (.iconst (-1), 1) := by decide +kernel
theorem dX0_init_109 : decode cX0_init 109 = .ok (.invokestatic 55, 3) := by decide +kernel
theorem dX0_init_112 : decode cX0_init 112 = .ok (.aload_n 0, 1) := by decide +kernel
theorem dX0_init_113 : decode cX0_init 113 = .ok (.getfield 32, 3) := by decide +kernel
theorem dX0_init_116 : decode cX0_init 116 = .ok (.iconst (-1), 1) := by decide +kernel
theorem dX0_init_117 : decode cX0_init 117 = .ok (.invokestatic 55, 3) := by decide +kernel
theorem dX0_init_120 : decode cX0_init 120 = .ok (.return_, 1) := by decide +kernel
theorem dX0_copyFrom_0 : decode cX0_copyFrom 0 = .ok (.aload_n 0, 1) := by decide +kernel
theorem dX0_copyFrom_1 : decode cX0_copyFrom 1 = .ok (.aload_n 1, 1) := by decide +kernel
theorem dX0_copyFrom_2 : decode cX0_copyFrom 2 = .ok (.getfield 9, 3) := by decide +kernel
theorem dX0_copyFrom_5 : decode cX0_copyFrom 5 = .ok (.putfield 9, 3) := by decide +kernel
theorem dX0_copyFrom_8 : decode cX0_copyFrom 8 = .ok (.aload_n 0, 1) := by decide +kernel
theorem dX0_copyFrom_9 : decode cX0_copyFrom 9 = .ok (.aload_n 1, 1) := by decide +kernel
theorem dX0_copyFrom_10 : decode cX0_copyFrom 10 = .ok (.getfield 15, 3) := by decide +kernel
theorem dX0_copyFrom_13 : decode cX0_copyFrom 13 = .ok (.putfield 15, 3) := by decide +kernel
theorem dX0_copyFrom_16 : decode cX0_copyFrom 16 = .ok (.aload_n 0, 1) := by decide +kernel
theorem dX0_copyFrom_17 : decode cX0_copyFrom 17 = .ok (.aload_n 1, 1) := by decide +kernel
theorem dX0_copyFrom_18 : decode cX0_copyFrom 18 = .ok (.getfield 18, 3) := by decide +kernel
theorem dX0_copyFrom_21 : decode cX0_copyFrom 21 = .ok (.putfield 18, 3) := by decide +kernel
theorem dX0_copyFrom_24 : decode cX0_copyFrom 24 = .ok (.aload_n 0, 1) := by decide +kernel
theorem dX0_copyFrom_25 : decode cX0_copyFrom 25 = .ok (.getfield 24, 3) := by decide +kernel
theorem dX0_copyFrom_28 : decode cX0_copyFrom 28 = .ok (.aload_n 1, 1) := by decide +kernel
theorem dX0_copyFrom_29 : decode cX0_copyFrom 29 = .ok (.getfield 24, 3) := by decide +kernel
theorem dX0_copyFrom_32 : decode cX0_copyFrom 32 = .ok (.invokevirtual 61, 3) := by decide +kernel
theorem dX0_copyFrom_35 : decode cX0_copyFrom 35 = .ok (.aload_n 1, 1) := by decide +kernel
theorem dX0_copyFrom_36 : decode cX0_copyFrom 36 = .ok (.getfield 28, 3) := by decide +kernel
theorem dX0_copyFrom_39 : decode cX0_copyFrom 39 = .ok (.iconst 0, 1) := by decide +kernel
theorem dX0_copyFrom_40 : decode cX0_copyFrom 40 = .ok (.aload_n 0, 1) := by decide +kernel
theorem dX0_copyFrom_41 : decode cX0_copyFrom 41 = .ok (.getfield 28, 3) := by decide +kernel
theorem dX0_copyFrom_44 : decode cX0_copyFrom 44 = .ok (.iconst 0, 1) := by decide +kernel
theorem dX0_copyFrom_45 : decode cX0_copyFrom 45 = .ok (.bipush 100, 2) := by decide +kernel
theorem dX0_copyFrom_47 : decode cX0_copyFrom 47 = .ok (.invokestatic 65, 3) := by decide +kernel
theorem dX0_copyFrom_50 : decode cX0_copyFrom 50 = .ok (.aload_n 1, 1) := by decide +kernel
theorem dX0_copyFrom_51 : decode cX0_copyFrom 51 = .ok (.getfield 32, 3) := by decide +kernel
theorem dX0_copyFrom_54 : decode cX0_copyFrom 54 = .ok (.iconst 0, 1) := by decide +kernel
theorem dX0_copyFrom_55 : decode cX0_copyFrom 55 = .ok (.aload_n 0, 1) := by decide +kernel
theorem dX0_copyFrom_56 : decode cX0_copyFrom 56 = .ok (.getfield 32, 3) := by decide +kernel
theorem dX0_copyFrom_59 : decode cX0_copyFrom 59 = .ok (.iconst 0, 1) := by decide +kernel
theorem dX0_copyFrom_60 : decode cX0_copyFrom 60 = .ok (.bipush 30, 2) := by decide +kernel
theorem dX0_copyFrom_62 : decode cX0_copyFrom 62 = .ok (.invokestatic 65, 3) := by decide +kernel
theorem dX0_copyFrom_65 : decode cX0_copyFrom 65 = .ok (.aload_n 1, 1) := by decide +kernel
theorem dX0_copyFrom_66 : decode cX0_copyFrom 66 = .ok (.getfield 35, 3) := by decide +kernel
theorem dX0_copyFrom_69 : decode cX0_copyFrom 69 = .ok (.iconst 0, 1) := by decide +kernel
theorem dX0_copyFrom_70 : decode cX0_copyFrom 70 = .ok (.aload_n 0, 1) := by decide +kernel
theorem dX0_copyFrom_71 : decode cX0_copyFrom 71 = .ok (.getfield 35, 3) := by decide +kernel
theorem dX0_copyFrom_74 : decode cX0_copyFrom 74 = .ok (.iconst 0, 1) := by decide +kernel
theorem dX0_copyFrom_75 : decode cX0_copyFrom 75 = .ok (.bipush 30, 2) := by decide +kernel
theorem dX0_copyFrom_77 : decode cX0_copyFrom 77 = .ok (.invokestatic 65, 3) := by decide +kernel
theorem dX0_copyFrom_80 : decode cX0_copyFrom 80 = .ok (.aload_n 1, 1) := by decide +kernel
theorem dX0_copyFrom_81 : decode cX0_copyFrom 81 = .ok (.getfield 38, 3) := by decide +kernel
theorem dX0_copyFrom_84 : decode cX0_copyFrom 84 = .ok (.iconst 0, 1) := by decide +kernel
theorem dX0_copyFrom_85 : decode cX0_copyFrom 85 = .ok (.aload_n 0, 1) := by decide +kernel
theorem dX0_copyFrom_86 : decode cX0_copyFrom 86 = .ok (.getfield 38, 3) := by decide +kernel
theorem dX0_copyFrom_89 : decode cX0_copyFrom 89 = .ok (.iconst 0, 1) := by decide +kernel
theorem dX0_copyFrom_90 : decode cX0_copyFrom 90 = .ok (.bipush 30, 2) := by decide +kernel
theorem dX0_copyFrom_92 : decode cX0_copyFrom 92 = .ok (.invokestatic 65, 3) := by decide +kernel
theorem dX0_copyFrom_95 : decode cX0_copyFrom 95 = .ok (.aload_n 1, 1) := by decide +kernel
theorem dX0_copyFrom_96 : decode cX0_copyFrom 96 = .ok (.getfield 41, 3) := by decide +kernel
theorem dX0_copyFrom_99 : decode cX0_copyFrom 99 = .ok (.iconst 0, 1) := by decide +kernel
theorem dX0_copyFrom_100 : decode cX0_copyFrom 100 = .ok (.aload_n 0, 1) := by decide +kernel
theorem dX0_copyFrom_101 : decode cX0_copyFrom 101 = .ok (.getfield 41, 3) := by decide +kernel
theorem dX0_copyFrom_104 : decode cX0_copyFrom 104 = .ok (.iconst 0, 1) := by decide +kernel
theorem dX0_copyFrom_105 : decode cX0_copyFrom 105 = .ok (.bipush 30, 2) := by decide +kernel
theorem dX0_copyFrom_107 : decode cX0_copyFrom 107 = .ok (.invokestatic 65, 3) := by decide +kernel
theorem dX0_copyFrom_110 : decode cX0_copyFrom 110 = .ok (.aload_n 1, 1) := by decide +kernel
theorem dX0_copyFrom_111 : decode cX0_copyFrom 111 = .ok (.getfield 44, 3) := by decide +kernel
theorem dX0_copyFrom_114 : decode cX0_copyFrom 114 = .ok (.iconst 0, 1) := by decide +kernel
theorem dX0_copyFrom_115 : decode cX0_copyFrom 115 = .ok (.aload_n 0, 1) := by decide +kernel
theorem dX0_copyFrom_116 : decode cX0_copyFrom 116 = .ok (.getfield 44, 3) := by decide +kernel
theorem dX0_copyFrom_119 : decode cX0_copyFrom 119 = .ok (.iconst 0, 1) := by decide +kernel
theorem dX0_copyFrom_120 : decode cX0_copyFrom 120 = .ok (.bipush 30, 2) := by decide +kernel
theorem dX0_copyFrom_122 : decode cX0_copyFrom 122 = .ok (.invokestatic 65, 3) := by decide +kernel
theorem dX0_copyFrom_125 : decode cX0_copyFrom 125 = .ok (.iconst 0, 1) := by decide +kernel
theorem dX0_copyFrom_126 : decode cX0_copyFrom 126 = .ok (.istore_n 2, 1) := by decide +kernel
theorem dX0_copyFrom_127 : decode cX0_copyFrom 127 = .ok (.iload_n 2, 1) := by decide +kernel
theorem dX0_copyFrom_128 : decode cX0_copyFrom 128 = .ok (.bipush 30, 2) := by decide +kernel
theorem dX0_copyFrom_130 : decode cX0_copyFrom 130 = .ok (.if_icmp .ge 47, 3) := by decide +kernel
theorem dX0_copyFrom_133 : decode cX0_copyFrom 133 = .ok (.aload_n 1, 1) := by decide +kernel
theorem dX0_copyFrom_134 : decode cX0_copyFrom 134 = .ok (.getfield 49, 3) := by decide +kernel
theorem dX0_copyFrom_137 : decode cX0_copyFrom 137 = .ok (.iload_n 2, 1) := by decide +kernel
theorem dX0_copyFrom_138 : decode cX0_copyFrom 138 = .ok (.aaload, 1) := by decide +kernel
theorem dX0_copyFrom_139 : decode cX0_copyFrom 139 = .ok (.iconst 0, 1) := by decide +kernel
theorem dX0_copyFrom_140 : decode cX0_copyFrom 140 = .ok (.aload_n 0, 1) := by decide +kernel
theorem dX0_copyFrom_141 : decode cX0_copyFrom 141 = .ok (.getfield 49, 3) := by decide +kernel
theorem dX0_copyFrom_144 : decode cX0_copyFrom 144 = .ok (.iload_n 2, 1) := by decide +kernel
theorem dX0_copyFrom_145 : decode cX0_copyFrom 145 = .ok (.aaload, 1) := by decide +kernel
theorem dX0_copyFrom_146 : decode cX0_copyFrom 146 = .ok (.iconst 0, 1) := by decide +kernel
theorem dX0_copyFrom_147 : decode cX0_copyFrom 147 = .ok (.bipush 40, 2) := by decide +kernel
theorem dX0_copyFrom_149 : decode cX0_copyFrom 149 = .ok (.invokestatic 65, 3) := by decide +kernel
theorem dX0_copyFrom_152 : decode cX0_copyFrom 152 = .ok (.aload_n 1, 1) := by decide +kernel
theorem dX0_copyFrom_153 : decode cX0_copyFrom 153 = .ok (.getfield 52, 3) := by decide +kernel
theorem dX0_copyFrom_156 : decode cX0_copyFrom 156 = .ok (.iload_n 2, 1) := by decide +kernel
theorem dX0_copyFrom_157 : decode cX0_copyFrom 157 = .ok (.aaload, 1) := by decide +kernel
theorem dX0_copyFrom_158 : decode cX0_copyFrom 158 = .ok (.iconst 0, 1) := by decide +kernel
theorem dX0_copyFrom_159 : decode cX0_copyFrom 159 = .ok (.aload_n 0, 1) := by decide +kernel
theorem dX0_copyFrom_160 : decode cX0_copyFrom 160 = .ok (.getfield 52, 3) := by decide +kernel
theorem dX0_copyFrom_163 : decode cX0_copyFrom 163 = .ok (.iload_n 2, 1) := by decide +kernel
theorem dX0_copyFrom_164 : decode cX0_copyFrom 164 = .ok (.aaload, 1) := by decide +kernel
theorem dX0_copyFrom_165 : decode cX0_copyFrom 165 = .ok (.iconst 0, 1) := by decide +kernel
theorem dX0_copyFrom_166 : decode cX0_copyFrom 166 = .ok (.bipush 40, 2) := by decide +kernel
theorem dX0_copyFrom_168 : decode cX0_copyFrom 168 = .ok (.invokestatic 65, 3) := by decide +kernel
theorem dX0_copyFrom_171 : decode cX0_copyFrom 171 = .ok (.iinc 2 1, 3) := by decide +kernel
theorem dX0_copyFrom_174 : decode cX0_copyFrom 174 = .ok (.goto (-47), 3) := by decide +kernel
theorem dX0_copyFrom_177 : decode cX0_copyFrom 177 = .ok (.return_, 1) := by decide +kernel
theorem dX0_rowOf_0 : decode cX0_rowOf 0 = .ok (.iload_n 1, 1) := by decide +kernel
theorem dX0_rowOf_1 : decode cX0_rowOf 1 = .ok (.ifCond .lt 9, 3) := by decide +kernel
theorem dX0_rowOf_4 : decode cX0_rowOf 4 = .ok (.iload_n 1, 1) := by decide +kernel
theorem dX0_rowOf_5 : decode cX0_rowOf 5 = .ok (.bipush 100, 2) := by decide +kernel
theorem dX0_rowOf_7 : decode cX0_rowOf 7 = .ok (.if_icmp .lt 7, 3) := by decide +kernel
theorem dX0_rowOf_10 : decode cX0_rowOf 10 = .ok (.iconst (-1), 1) := by decide +kernel
theorem dX0_rowOf_11 : decode cX0_rowOf 11 = .ok (.goto 9, 3) := by decide +kernel
theorem dX0_rowOf_14 : decode cX0_rowOf 14 = .ok (.aload_n 0, 1) := by decide +kernel
theorem dX0_rowOf_15 : decode cX0_rowOf 15 = .ok (.getfield 28, 3) := by decide +kernel
theorem dX0_rowOf_18 : decode cX0_rowOf 18 = .ok (.iload_n 1, 1) := by decide +kernel
theorem dX0_rowOf_19 : decode cX0_rowOf 19 = .ok (.iaload, 1) := by decide +kernel
theorem dX0_rowOf_20 : decode cX0_rowOf 20 = .ok (.ireturn, 1) := by decide +kernel
theorem dX0_layRow_0 : decode cX0_layRow 0 = .ok (.aload_n 0, 1) := by decide +kernel
theorem dX0_layRow_1 : decode cX0_layRow 1 = .ok (.iload_n 1, 1) := by decide +kernel
theorem dX0_layRow_2 : decode cX0_layRow 2 = .ok (.invokevirtual 71, 3) := by decide +kernel
theorem dX0_layRow_5 : decode cX0_layRow 5 = .ok (.istore_n 3, 1) := by decide +kernel
theorem dX0_layRow_6 : decode cX0_layRow 6 = .ok (.iload_n 3, 1) := by decide +kernel
theorem dX0_layRow_7 : decode cX0_layRow 7 = .ok (.iconst (-1), 1) := by decide +kernel
theorem dX0_layRow_8 : decode cX0_layRow 8 = .ok (.if_icmp .ne 37, 3) := by decide +kernel
theorem dX0_layRow_11 : decode cX0_layRow 11 = .ok (.aload_n 0, 1) := by decide +kernel
theorem dX0_layRow_12 : decode cX0_layRow 12 = .ok (.iload_n 1, 1) := by decide +kernel
theorem dX0_layRow_13 : decode cX0_layRow 13 = .ok (.invokevirtual 75, 3) := by decide +kernel
theorem dX0_layRow_16 : decode cX0_layRow 16 = .ok (.istore_n 3, 1) := by decide +kernel
theorem dX0_layRow_17 : decode cX0_layRow 17 = .ok (.iload_n 3, 1) := by decide +kernel
theorem dX0_layRow_18 : decode cX0_layRow 18 = .ok (.iconst (-1), 1) := by decide +kernel
theorem dX0_layRow_19 : decode cX0_layRow 19 = .ok (.if_icmp .ne 5, 3) := by decide +kernel
theorem dX0_layRow_22 : decode cX0_layRow 22 = .ok (.iconst (-1), 1) := by decide +kernel
theorem dX0_layRow_23 : decode cX0_layRow 23 = .ok (.ireturn, 1) := by decide +kernel
theorem dX0_layRow_24 : decode cX0_layRow 24 = .ok (.aload_n 0, 1) := by decide +kernel
theorem dX0_layRow_25 : decode cX0_layRow 25 = .ok (.getfield 35, 3) := by decide +kernel
theorem dX0_layRow_28 : decode cX0_layRow 28 = .ok (.iload_n 3, 1) := by decide +kernel
theorem dX0_layRow_29 : decode cX0_layRow 29 = .ok (.iload_n 2, 1) := by decide +kernel
theorem dX0_layRow_30 : decode cX0_layRow 30 = .ok (.iastore, 1) := by decide +kernel
theorem dX0_layRow_31 : decode cX0_layRow 31 = .ok (.aload_n 0, 1) := by decide +kernel
theorem dX0_layRow_32 : decode cX0_layRow 32 = .ok (.iload_n 3, 1) := by decide +kernel
theorem dX0_layRow_33 : decode cX0_layRow 33 = .ok (.invokevirtual 78, 3) := by decide +kernel
theorem dX0_layRow_36 : decode cX0_layRow 36 = .ok (.ifCond .eq 7, 3) := by decide +kernel
theorem dX0_layRow_39 : decode cX0_layRow 39 = .ok (.iload_n 3, 1) := by decide +kernel
theorem dX0_layRow_40 : decode cX0_layRow 40 = .ok (.goto 4, 3) := by decide +kernel
theorem dX0_layRow_43 : decode cX0_layRow 43 = .ok (.iconst (-1), 1) := by decide +kernel
theorem dX0_layRow_44 : decode cX0_layRow 44 = .ok (.ireturn, 1) := by decide +kernel
theorem dX0_layRow_45 : decode cX0_layRow 45 = .ok (.aload_n 0, 1) := by decide +kernel
theorem dX0_layRow_46 : decode cX0_layRow 46 = .ok (.getfield 35, 3) := by decide +kernel
theorem dX0_layRow_49 : decode cX0_layRow 49 = .ok (.iload_n 3, 1) := by decide +kernel
theorem dX0_layRow_50 : decode cX0_layRow 50 = .ok (.iload_n 2, 1) := by decide +kernel
theorem dX0_layRow_51 : decode cX0_layRow 51 = .ok (.iastore, 1) := by decide +kernel
theorem dX0_layRow_52 : decode cX0_layRow 52 = .ok (.aload_n 0, 1) := by decide +kernel
theorem dX0_layRow_53 : decode cX0_layRow 53 = .ok (.iload_n 3, 1) := by decide +kernel
theorem dX0_layRow_54 : decode cX0_layRow 54 = .ok (.invokevirtual 82, 3) := by decide +kernel
theorem dX0_layRow_57 : decode cX0_layRow 57 = .ok (.ifCond .eq 7, 3) := by decide +kernel
theorem dX0_layRow_60 : decode cX0_layRow 60 = .ok (.iload_n 3, 1) := by decide +kernel
theorem dX0_layRow_61 : decode cX0_layRow 61 = .ok (.goto 4, 3) := by decide +kernel
theorem dX0_layRow_64 : decode cX0_layRow 64 = .ok (.iconst (-1), 1) := by decide +kernel
theorem dX0_layRow_65 : decode cX0_layRow 65 = .ok (.ireturn, 1) := by decide +kernel
theorem dX0_addRow_0 : decode cX0_addRow 0 = .ok (.iconst 0, 1) := by decide +kernel
theorem dX0_addRow_1 : decode cX0_addRow 1 = .ok (.istore_n 2, 1) := by decide +kernel
theorem dX0_addRow_2 : decode cX0_addRow 2 = .ok (.iload_n 2, 1) := by decide +kernel
theorem dX0_addRow_3 : decode cX0_addRow 3 = .ok (.bipush 30, 2) := by decide +kernel
theorem dX0_addRow_5 : decode cX0_addRow 5 = .ok (.if_icmp .ge 45, 3) := by decide +kernel
theorem dX0_addRow_8 : decode cX0_addRow 8 = .ok (.aload_n 0, 1) := by decide +kernel
theorem dX0_addRow_9 : decode cX0_addRow 9 = .ok (.getfield 32, 3) := by decide +kernel
theorem dX0_addRow_12 : decode cX0_addRow 12 = .ok (.iload_n 2, 1) := by decide +kernel
theorem dX0_addRow_13 : decode cX0_addRow 13 = .ok (.iaload, 1) := by decide +kernel
theorem dX0_addRow_14 : decode cX0_addRow 14 = .ok (.iconst (-1), 1) := by decide +kernel
theorem dX0_addRow_15 : decode cX0_addRow 15 = .ok (.if_icmp .ne 29, 3) := by decide +kernel
theorem dX0_addRow_18 : decode cX0_addRow 18 = .ok (.aload_n 0, 1) := by decide +kernel
theorem dX0_addRow_19 : decode cX0_addRow 19 = .ok (.getfield 32, 3) := by decide +kernel
theorem dX0_addRow_22 : decode cX0_addRow 22 = .ok (.iload_n 2, 1) := by decide +kernel
theorem dX0_addRow_23 : decode cX0_addRow 23 = .ok (.iload_n 1, 1) := by decide +kernel
theorem dX0_addRow_24 : decode cX0_addRow 24 = .ok (.iastore, 1) := by decide +kernel
theorem dX0_addRow_25 : decode cX0_addRow 25 = .ok (.aload_n 0, 1) := by decide +kernel
theorem dX0_addRow_26 : decode cX0_addRow 26 = .ok (.getfield 28, 3) := by decide +kernel
theorem dX0_addRow_29 : decode cX0_addRow 29 = .ok (.iload_n 1, 1) := by decide +kernel
theorem dX0_addRow_30 : decode cX0_addRow 30 = .ok (.iload_n 2, 1) := by decide +kernel
theorem dX0_addRow_31 : decode cX0_addRow 31 = .ok (.iastore, 1) := by decide +kernel
theorem dX0_addRow_32 : decode cX0_addRow 32 = .ok (.aload_n 0, 1) := by decide +kernel
theorem dX0_addRow_33 : decode cX0_addRow 33 = .ok (.dup, 1) := by decide +kernel
theorem dX0_addRow_34 : decode cX0_addRow 34 = .ok (.getfield 18, 3) := by decide +kernel
theorem dX0_addRow_37 : decode cX0_addRow 37 = .ok (.iconst 1, 1) := by decide +kernel
theorem dX0_addRow_38 : decode cX0_addRow 38 = .ok (.iadd, 1) := by decide +kernel
theorem dX0_addRow_39 : decode cX0_addRow 39 = .ok (.putfield 18, 3) := by decide +kernel
theorem dX0_addRow_42 : decode cX0_addRow 42 = .ok (.iload_n 2, 1) := by decide +kernel
theorem dX0_addRow_43 : decode cX0_addRow 43 = .ok (.ireturn, 1) := by decide +kernel
theorem dX0_addRow_44 : decode cX0_addRow 44 = .ok (.iinc 2 1, 3) := by decide +kernel
theorem dX0_addRow_47 : decode cX0_addRow 47 = .ok (.goto (-45), 3) := by decide +kernel
theorem dX0_addRow_50 : decode cX0_addRow 50 = .ok (.iconst (-1), 1) := by decide +kernel
theorem dX0_addRow_51 : decode cX0_addRow 51 = .ok (.ireturn, 1) := by decide +kernel
theorem dX0_layNew_0 : decode cX0_layNew 0 = .ok (.aload_n 0, 1) := by decide +kernel
theorem dX0_layNew_1 : decode cX0_layNew 1 = .ok (.getfield 24, 3) := by decide +kernel
theorem dX0_layNew_4 : decode cX0_layNew 4 = .ok (.iconst 1, 1) := by decide +kernel
theorem dX0_layNew_5 : decode cX0_layNew 5 = .ok (.aload_n 0, 1) := by decide +kernel
theorem dX0_layNew_6 : decode cX0_layNew 6 = .ok (.getfield 32, 3) := by decide +kernel
theorem dX0_layNew_9 : decode cX0_layNew 9 = .ok (.iload_n 1, 1) := by decide +kernel
theorem dX0_layNew_10 : decode cX0_layNew 10 = .ok (.iaload, 1) := by decide +kernel
theorem dX0_layNew_11 : decode cX0_layNew 11 = .ok (.aload_n 0, 1) := by decide +kernel
theorem dX0_layNew_12 : decode cX0_layNew 12 = .ok (.iload_n 1, 1) := by decide +kernel
theorem dX0_layNew_13 : decode cX0_layNew 13 = .ok (.invokevirtual 85, 3) := by decide +kernel
theorem dX0_layNew_16 : decode cX0_layNew 16 = .ok (.invokevirtual 88, 3) := by decide +kernel
theorem dX0_layNew_19 : decode cX0_layNew 19 = .ok (.istore_n 2, 1) := by decide +kernel
theorem dX0_layNew_20 : decode cX0_layNew 20 = .ok (.aload_n 0, 1) := by decide +kernel
theorem dX0_layNew_21 : decode cX0_layNew 21 = .ok (.getfield 38, 3) := by decide +kernel
theorem dX0_layNew_24 : decode cX0_layNew 24 = .ok (.iload_n 1, 1) := by decide +kernel
theorem dX0_layNew_25 : decode cX0_layNew 25 = .ok (.iload_n 2, 1) := by decide +kernel
theorem dX0_layNew_26 : decode cX0_layNew 26 = .ok (.iastore, 1) := by decide +kernel
theorem dX0_layNew_27 : decode cX0_layNew 27 = .ok (.aload_n 0, 1) := by decide +kernel
theorem dX0_layNew_28 : decode cX0_layNew 28 = .ok (.getfield 41, 3) := by decide +kernel
theorem dX0_layNew_31 : decode cX0_layNew 31 = .ok (.iload_n 1, 1) := by decide +kernel
theorem dX0_layNew_32 : decode cX0_layNew 32 = .ok (.iload_n 2, 1) := by decide +kernel
theorem dX0_layNew_33 : decode cX0_layNew 33 = .ok (.iastore, 1) := by decide +kernel
theorem dX0_layNew_34 : decode cX0_layNew 34 = .ok (.iload_n 2, 1) := by decide +kernel
theorem dX0_layNew_35 : decode cX0_layNew 35 = .ok (.iconst (-1), 1) := by decide +kernel
theorem dX0_layNew_36 : decode cX0_layNew 36 = .ok (.if_icmp .eq 15, 3) := by decide +kernel
theorem dX0_layNew_39 : decode cX0_layNew 39 = .ok (.aload_n 0, 1) := by decide +kernel
theorem dX0_layNew_40 : decode cX0_layNew 40 = .ok (.iload_n 1, 1) := by decide +kernel
theorem dX0_layNew_41 : decode cX0_layNew 41 = .ok (.invokevirtual 92, 3) := by decide +kernel
theorem dX0_layNew_44 : decode cX0_layNew 44 = .ok (.ifCond .eq 7, 3) := by decide +kernel
theorem dX0_layNew_47 : decode cX0_layNew 47 = .ok (.iconst 1, 1) := by decide +kernel
theorem dX0_layNew_48 : decode cX0_layNew 48 = .ok (.goto 4, 3) := by decide +kernel
theorem dX0_layNew_51 : decode cX0_layNew 51 = .ok (.iconst 0, 1) := by decide +kernel
theorem dX0_layNew_52 : decode cX0_layNew 52 = .ok (.ireturn, 1) := by decide +kernel
theorem dX0_layAgain_0 : decode cX0_layAgain 0 = .ok (.aload_n 0, 1) := by decide +kernel
theorem dX0_layAgain_1 : decode cX0_layAgain 1 = .ok (.iload_n 1, 1) := by decide +kernel
theorem dX0_layAgain_2 : decode cX0_layAgain 2 = .ok (.invokevirtual 95, 3) := by decide +kernel
theorem dX0_layAgain_5 : decode cX0_layAgain 5 = .ok (.aload_n 0, 1) := by decide +kernel
theorem dX0_layAgain_6 : decode cX0_layAgain 6 = .ok (.getfield 24, 3) := by decide +kernel
theorem dX0_layAgain_9 : decode cX0_layAgain 9 = .ok (.aload_n 0, 1) := by decide +kernel
theorem dX0_layAgain_10 : decode cX0_layAgain 10 = .ok (.getfield 41, 3) := by decide +kernel
theorem dX0_layAgain_13 : decode cX0_layAgain 13 = .ok (.iload_n 1, 1) := by decide +kernel
theorem dX0_layAgain_14 : decode cX0_layAgain 14 = .ok (.iaload, 1) := by decide +kernel
theorem dX0_layAgain_15 : decode cX0_layAgain 15 = .ok (.invokevirtual 99, 3) := by decide +kernel
theorem dX0_layAgain_18 : decode cX0_layAgain 18 = .ok (.aload_n 0, 1) := by decide +kernel
theorem dX0_layAgain_19 : decode cX0_layAgain 19 = .ok (.getfield 41, 3) := by decide +kernel
theorem dX0_layAgain_22 : decode cX0_layAgain 22 = .ok (.iload_n 1, 1) := by decide +kernel
theorem dX0_layAgain_23 : decode cX0_layAgain 23 = .ok (.aload_n 0, 1) := by decide +kernel
theorem dX0_layAgain_24 : decode cX0_layAgain 24 = .ok (.iload_n 1, 1) := by decide +kernel
theorem dX0_layAgain_25 : decode cX0_layAgain 25 = .ok (.invokevirtual 102, 3) := by decide +kernel
theorem dX0_layAgain_28 : decode cX0_layAgain 28 = .ok (.iastore, 1) := by decide +kernel
theorem dX0_layAgain_29 : decode cX0_layAgain 29 = .ok (.aload_n 0, 1) := by decide +kernel
theorem dX0_layAgain_30 : decode cX0_layAgain 30 = .ok (.getfield 41, 3) := by decide +kernel
theorem dX0_layAgain_33 : decode cX0_layAgain 33 = .ok (.iload_n 1, 1) := by decide +kernel
theorem dX0_layAgain_34 : decode cX0_layAgain 34 = .ok (.iaload, 1) := by decide +kernel
theorem dX0_layAgain_35 : decode cX0_layAgain 35 = .ok (.iconst (-1), 1) := by decide +kernel
theorem dX0_layAgain_36 : decode cX0_layAgain 36 = .ok (.if_icmp .eq 15, 3) := by decide +kernel
theorem dX0_layAgain_39 : decode cX0_layAgain 39 = .ok (.aload_n 0, 1) := by decide +kernel
theorem dX0_layAgain_40 : decode cX0_layAgain 40 = .ok (.iload_n 1, 1) := by decide +kernel
theorem dX0_layAgain_41 : decode cX0_layAgain 41 = .ok (.invokevirtual 92, 3) := by decide +kernel
theorem dX0_layAgain_44 : decode cX0_layAgain 44 = .ok (.ifCond .eq 7, 3) := by decide +kernel
theorem dX0_layAgain_47 : decode cX0_layAgain 47 = .ok (.iconst 1, 1) := by decide +kernel
theorem dX0_layAgain_48 : decode cX0_layAgain 48 = .ok (.goto 4, 3) := by decide +kernel
theorem dX0_layAgain_51 : decode cX0_layAgain 51 = .ok (.iconst 0, 1) := by decide +kernel
theorem dX0_layAgain_52 : decode cX0_layAgain 52 = .ok (.ireturn, 1) := by decide +kernel
theorem dX0_layHeadAgain_0 : decode cX0_layHeadAgain 0 = .ok (.aload_n 0, 1) := by decide +kernel
theorem dX0_layHeadAgain_1 : decode cX0_layHeadAgain 1 = .ok (.getfield 32, 3) := by decide +kernel
theorem dX0_layHeadAgain_4 : decode cX0_layHeadAgain 4 = .ok (.iload_n 1, 1) := by decide +kernel
theorem dX0_layHeadAgain_5 : decode cX0_layHeadAgain 5 = .ok (.iaload, 1) := by decide +kernel
theorem dX0_layHeadAgain_6 : decode cX0_layHeadAgain 6 = .ok (.istore_n 2, 1) := by decide +kernel
theorem dX0_layHeadAgain_7 : decode cX0_layHeadAgain 7 = .ok (.aload_n 0, 1) := by decide +kernel
theorem dX0_layHeadAgain_8 : decode cX0_layHeadAgain 8 = .ok (.getfield 38, 3) := by decide +kernel
theorem dX0_layHeadAgain_11 : decode cX0_layHeadAgain 11 = .ok (.iload_n 1, 1) := by decide +kernel
theorem dX0_layHeadAgain_12 : decode cX0_layHeadAgain 12 = .ok (.iaload, 1) := by decide +kernel
theorem dX0_layHeadAgain_13 : decode cX0_layHeadAgain 13 = .ok (.istore_n 3, 1) := by decide +kernel
theorem dX0_layHeadAgain_14 : decode cX0_layHeadAgain 14 = .ok (.aload_n 0, 1) := by decide +kernel
theorem dX0_layHeadAgain_15 : decode cX0_layHeadAgain 15 = .ok (.getfield 41, 3) := by decide +kernel
theorem dX0_layHeadAgain_18 : decode cX0_layHeadAgain 18 = .ok (.iload_n 1, 1) := by decide +kernel
theorem dX0_layHeadAgain_19 : decode cX0_layHeadAgain 19 = .ok (.iaload, 1) := by decide +kernel
theorem dX0_layHeadAgain_20 : decode cX0_layHeadAgain 20 = .ok (.istore 4, 2) := by decide +kernel
theorem dX0_layHeadAgain_22 : decode cX0_layHeadAgain 22 = .ok (.aload_n 0, 1) := by decide +kernel
theorem dX0_layHeadAgain_23 : decode cX0_layHeadAgain 23 = .ok (.iload_n 1, 1) := by decide +kernel
theorem dX0_layHeadAgain_24 : decode cX0_layHeadAgain 24 = .ok (.invokevirtual 85, 3) := by decide +kernel
theorem dX0_layHeadAgain_27 : decode cX0_layHeadAgain 27 = .ok (.istore 5, 2) := by decide +kernel
theorem dX0_layHeadAgain_29 : decode cX0_layHeadAgain 29 = .ok (.aload_n 0, 1) := by decide +kernel
theorem dX0_layHeadAgain_30 : decode cX0_layHeadAgain 30 = .ok (.getfield 24, 3) := by decide +kernel
theorem dX0_layHeadAgain_33 : decode cX0_layHeadAgain 33 = .ok (.iload 4, 2) := by decide +kernel
theorem dX0_layHeadAgain_35 : decode cX0_layHeadAgain 35 = .ok (.bipush 40, 2) := by decide +kernel
theorem dX0_layHeadAgain_37 : decode cX0_layHeadAgain 37 = .ok (.idiv, 1) := by decide +kernel
theorem dX0_layHeadAgain_38 : decode cX0_layHeadAgain 38 = .ok (.iload 5, 2) := by decide +kernel
theorem dX0_layHeadAgain_40 : decode cX0_layHeadAgain 40 = .ok (.invokevirtual 105, 3) := by decide +kernel
theorem dX0_layHeadAgain_43 : decode cX0_layHeadAgain 43 = .ok (.ifCond .eq 19, 3) := by decide +kernel
theorem dX0_layHeadAgain_46 : decode cX0_layHeadAgain 46 = .ok (.aload_n 0, 1) := by decide +kernel
theorem dX0_layHeadAgain_47 : decode cX0_layHeadAgain 47 = .ok (.getfield 24, 3) := by decide +kernel
theorem dX0_layHeadAgain_50 : decode cX0_layHeadAgain 50 = .ok (.iload 4, 2) := by decide +kernel
theorem dX0_layHeadAgain_52 : decode cX0_layHeadAgain 52 = .ok (.iconst 1, 1) := by decide +kernel
theorem dX0_layHeadAgain_53 : decode cX0_layHeadAgain 53 = .ok (.iload_n 2, 1) := by decide +kernel
theorem dX0_layHeadAgain_54 : decode cX0_layHeadAgain 54 = .ok (.iload 5, 2) := by decide +kernel
theorem dX0_layHeadAgain_56 : decode cX0_layHeadAgain 56 = .ok (.invokevirtual 109, 3) := by decide +kernel
theorem dX0_layHeadAgain_59 : decode cX0_layHeadAgain 59 = .ok (.iload 4, 2) := by decide +kernel
theorem dX0_layHeadAgain_61 : decode cX0_layHeadAgain 61 = .ok (.ireturn, 1) := by decide +kernel
theorem dX0_layHeadAgain_62 : decode cX0_layHeadAgain 62 = .ok (.iload 4, 2) := by decide +kernel
theorem dX0_layHeadAgain_64 : decode cX0_layHeadAgain 64 = .ok (.iload_n 3, 1) := by decide +kernel
theorem dX0_layHeadAgain_65 : decode cX0_layHeadAgain 65 = .ok (.if_icmp .ne 26, 3) := by decide +kernel
theorem dX0_layHeadAgain_68 : decode cX0_layHeadAgain 68 = .ok (.aload_n 0, 1) := by decide +kernel
theorem dX0_layHeadAgain_69 : decode cX0_layHeadAgain 69 = .ok (.getfield 24, 3) := by decide +kernel
theorem dX0_layHeadAgain_72 : decode cX0_layHeadAgain 72 = .ok (.iload_n 3, 1) := by decide +kernel
theorem dX0_layHeadAgain_73 : decode cX0_layHeadAgain 73 = .ok (.iconst 3, 1) := by decide +kernel
theorem dX0_layHeadAgain_74 : decode cX0_layHeadAgain 74 = .ok (.iload_n 2, 1) := by decide +kernel
theorem dX0_layHeadAgain_75 : decode cX0_layHeadAgain 75 = .ok (.iconst 1, 1) := by decide +kernel
theorem dX0_layHeadAgain_76 : decode cX0_layHeadAgain 76 = .ok (.invokevirtual 109, 3) := by decide +kernel
theorem dX0_layHeadAgain_79 : decode cX0_layHeadAgain 79 = .ok (.aload_n 0, 1) := by decide +kernel
theorem dX0_layHeadAgain_80 : decode cX0_layHeadAgain 80 = .ok (.getfield 24, 3) := by decide +kernel
theorem dX0_layHeadAgain_83 : decode cX0_layHeadAgain 83 = .ok (.iconst 1, 1) := by decide +kernel
theorem dX0_layHeadAgain_84 : decode cX0_layHeadAgain 84 = .ok (.iload_n 2, 1) := by decide +kernel
theorem dX0_layHeadAgain_85 : decode cX0_layHeadAgain 85 = .ok (.iload 5, 2) := by decide +kernel
theorem dX0_layHeadAgain_87 : decode cX0_layHeadAgain 87 = .ok (.invokevirtual 88, 3) := by decide +kernel
theorem dX0_layHeadAgain_90 : decode cX0_layHeadAgain 90 = .ok (.ireturn, 1) := by decide +kernel
theorem dX0_layHeadAgain_91 : decode cX0_layHeadAgain 91 = .ok (.aload_n 0, 1) := by decide +kernel
theorem dX0_layHeadAgain_92 : decode cX0_layHeadAgain 92 = .ok (.getfield 24, 3) := by decide +kernel
theorem dX0_layHeadAgain_95 : decode cX0_layHeadAgain 95 = .ok (.iload_n 3, 1) := by decide +kernel
theorem dX0_layHeadAgain_96 : decode cX0_layHeadAgain 96 = .ok (.bipush 40, 2) := by decide +kernel
theorem dX0_layHeadAgain_98 : decode cX0_layHeadAgain 98 = .ok (.idiv, 1) := by decide +kernel
theorem dX0_layHeadAgain_99 : decode cX0_layHeadAgain 99 = .ok (.iload 5, 2) := by decide +kernel
theorem dX0_layHeadAgain_101 : decode cX0_layHeadAgain 101 = .ok (.iconst 1, 1) := by decide +kernel
theorem dX0_layHeadAgain_102 : decode cX0_layHeadAgain 102 = .ok (.isub, 1) := by decide +kernel
theorem dX0_layHeadAgain_103 : decode cX0_layHeadAgain 103 = .ok (.invokevirtual 105, 3) := by decide +kernel
theorem dX0_layHeadAgain_106 : decode cX0_layHeadAgain 106 = .ok (.ifCond .eq 25, 3) := by decide +kernel
theorem dX0_layHeadAgain_109 : decode cX0_layHeadAgain 109 = .ok (.aload_n 0, 1) := by decide +kernel
theorem dX0_layHeadAgain_110 : decode cX0_layHeadAgain 110 = .ok (.getfield 24, 3) := by decide +kernel
theorem dX0_layHeadAgain_113 : decode cX0_layHeadAgain 113 = .ok (.iload_n 3, 1) := by decide +kernel
theorem dX0_layHeadAgain_114 : decode cX0_layHeadAgain 114 = .ok (.invokevirtual 99, 3) := by decide +kernel
theorem dX0_layHeadAgain_117 : decode cX0_layHeadAgain 117 = .ok (.aload_n 0, 1) := by decide +kernel
theorem dX0_layHeadAgain_118 : decode cX0_layHeadAgain 118 = .ok (.getfield 24, 3) := by decide +kernel
theorem dX0_layHeadAgain_121 : decode cX0_layHeadAgain 121 = .ok (.iload_n 3, 1) := by decide +kernel
theorem dX0_layHeadAgain_122 : decode cX0_layHeadAgain 122 = .ok (.iconst 1, 1) := by decide +kernel
theorem dX0_layHeadAgain_123 : decode cX0_layHeadAgain 123 = .ok (.iload_n 2, 1) := by decide +kernel
theorem dX0_layHeadAgain_124 : decode cX0_layHeadAgain 124 = .ok (.iload 5, 2) := by decide +kernel
theorem dX0_layHeadAgain_126 : decode cX0_layHeadAgain 126 = .ok (.invokevirtual 109, 3) := by decide +kernel
theorem dX0_layHeadAgain_129 : decode cX0_layHeadAgain 129 = .ok (.iload_n 3, 1) := by decide +kernel
theorem dX0_layHeadAgain_130 : decode cX0_layHeadAgain 130 = .ok (.ireturn, 1) := by decide +kernel
theorem dX0_layHeadAgain_131 : decode cX0_layHeadAgain 131 = .ok (.aload_n 0, 1) := by decide +kernel
theorem dX0_layHeadAgain_132 : decode cX0_layHeadAgain 132 = .ok (.getfield 24, 3) := by decide +kernel
theorem dX0_layHeadAgain_135 : decode cX0_layHeadAgain 135 = .ok (.iconst 1, 1) := by decide +kernel
theorem dX0_layHeadAgain_136 : decode cX0_layHeadAgain 136 = .ok (.iload_n 2, 1) := by decide +kernel
theorem dX0_layHeadAgain_137 : decode cX0_layHeadAgain 137 = .ok (.iload 5, 2) := by decide +kernel
theorem dX0_layHeadAgain_139 : decode cX0_layHeadAgain 139 = .ok (.invokevirtual 88, 3) := by decide +kernel
theorem dX0_layHeadAgain_142 : decode cX0_layHeadAgain 142 = .ok (.ireturn, 1) := by decide +kernel
theorem dX0_layPieces_0 : decode cX0_layPieces 0 = .ok (.aload_n 0, 1) := by decide +kernel
theorem dX0_layPieces_1 : decode cX0_layPieces 1 = .ok (.getfield 35, 3) := by decide +kernel
theorem dX0_layPieces_4 : decode cX0_layPieces 4 = .ok (.iload_n 1, 1) := by decide +kernel
theorem dX0_layPieces_5 : decode cX0_layPieces 5 = .ok (.iaload, 1) := by decide +kernel
theorem dX0_layPieces_6 : decode cX0_layPieces 6 = .ok (.aload_n 0, 1) := by decide +kernel
theorem dX0_layPieces_7 : decode cX0_layPieces 7 = .ok (.iload_n 1, 1) := by decide +kernel
theorem dX0_layPieces_8 : decode cX0_layPieces 8 = .ok (.invokevirtual 113, 3) := by decide +kernel
theorem dX0_layPieces_11 : decode cX0_layPieces 11 = .ok (.isub, 1) := by decide +kernel
theorem dX0_layPieces_12 : decode cX0_layPieces 12 = .ok (.istore_n 2, 1) := by decide +kernel
theorem dX0_layPieces_13 : decode cX0_layPieces 13 = .ok (.iconst 0, 1) := by decide +kernel
theorem dX0_layPieces_14 : decode cX0_layPieces 14 = .ok (.istore_n 3, 1) := by decide +kernel
theorem dX0_layPieces_15 : decode cX0_layPieces 15 = .ok (.iload_n 3, 1) := by decide +kernel
theorem dX0_layPieces_16 : decode cX0_layPieces 16 = .ok (.bipush 40, 2) := by decide +kernel
theorem dX0_layPieces_18 : decode cX0_layPieces 18 = .ok (.if_icmp .ge 66, 3) := by decide +kernel
theorem dX0_layPieces_21 : decode cX0_layPieces 21 = .ok (.iload_n 2, 1) := by decide +kernel
theorem dX0_layPieces_22 : decode cX0_layPieces 22 = .ok (.ifCond .le 62, 3) := by decide +kernel
theorem dX0_layPieces_25 : decode cX0_layPieces 25 = .ok (.iload_n 2, 1) := by decide +kernel
theorem dX0_layPieces_26 : decode cX0_layPieces 26 = .ok (.aload_n 0, 1) := by decide +kernel
theorem dX0_layPieces_27 : decode cX0_layPieces 27 = .ok (.getfield 15, 3) := by decide +kernel
theorem dX0_layPieces_30 : decode cX0_layPieces 30 = .ok (.invokestatic 116, 3) := by decide +kernel
theorem dX0_layPieces_33 : decode cX0_layPieces 33 = .ok (.istore 4, 2) := by decide +kernel
theorem dX0_layPieces_35 : decode cX0_layPieces 35 = .ok (.aload_n 0, 1) := by decide +kernel
theorem dX0_layPieces_36 : decode cX0_layPieces 36 = .ok (.getfield 24, 3) := by decide +kernel
theorem dX0_layPieces_39 : decode cX0_layPieces 39 = .ok (.iconst 2, 1) := by decide +kernel
theorem dX0_layPieces_40 : decode cX0_layPieces 40 = .ok (.aload_n 0, 1) := by decide +kernel
theorem dX0_layPieces_41 : decode cX0_layPieces 41 = .ok (.getfield 32, 3) := by decide +kernel
theorem dX0_layPieces_44 : decode cX0_layPieces 44 = .ok (.iload_n 1, 1) := by decide +kernel
theorem dX0_layPieces_45 : decode cX0_layPieces 45 = .ok (.iaload, 1) := by decide +kernel
theorem dX0_layPieces_46 : decode cX0_layPieces 46 = .ok (.iconst 1, 1) := by decide +kernel
theorem dX0_layPieces_47 : decode cX0_layPieces 47 = .ok (.iload 4, 2) := by decide +kernel
theorem dX0_layPieces_49 : decode cX0_layPieces 49 = .ok (.iadd, 1) := by decide +kernel
theorem dX0_layPieces_50 : decode cX0_layPieces 50 = .ok (.invokevirtual 88, 3) := by decide +kernel
theorem dX0_layPieces_53 : decode cX0_layPieces 53 = .ok (.istore 5, 2) := by decide +kernel
theorem dX0_layPieces_55 : decode cX0_layPieces 55 = .ok (.iload 5, 2) := by decide +kernel
theorem dX0_layPieces_57 : decode cX0_layPieces 57 = .ok (.iconst (-1), 1) := by decide +kernel
theorem dX0_layPieces_58 : decode cX0_layPieces 58 = .ok (.if_icmp .ne 5, 3) := by decide +kernel
theorem dX0_layPieces_61 : decode cX0_layPieces 61 = .ok (.iconst 0, 1) := by decide +kernel
theorem dX0_layPieces_62 : decode cX0_layPieces 62 = .ok (.ireturn, 1) := by decide +kernel
theorem dX0_layPieces_63 : decode cX0_layPieces 63 = .ok (.aload_n 0, 1) := by decide +kernel
theorem dX0_layPieces_64 : decode cX0_layPieces 64 = .ok (.getfield 49, 3) := by decide +kernel
theorem dX0_layPieces_67 : decode cX0_layPieces 67 = .ok (.iload_n 1, 1) := by decide +kernel
theorem dX0_layPieces_68 : decode cX0_layPieces 68 = .ok (.aaload, 1) := by decide +kernel
theorem dX0_layPieces_69 : decode cX0_layPieces 69 = .ok (.iload_n 3, 1) := by decide +kernel
theorem dX0_layPieces_70 : decode cX0_layPieces 70 = .ok (.iload 5, 2) := by decide +kernel
theorem dX0_layPieces_72 : decode cX0_layPieces 72 = .ok (.iastore, 1) := by decide +kernel
theorem dX0_layPieces_73 : decode cX0_layPieces 73 = .ok (.iload_n 2, 1) := by decide +kernel
theorem dX0_layPieces_74 : decode cX0_layPieces 74 = .ok (.iload 4, 2) := by decide +kernel
theorem dX0_layPieces_76 : decode cX0_layPieces 76 = .ok (.isub, 1) := by decide +kernel
theorem dX0_layPieces_77 : decode cX0_layPieces 77 = .ok (.istore_n 2, 1) := by decide +kernel
theorem dX0_layPieces_78 : decode cX0_layPieces 78 = .ok (.iinc 3 1, 3) := by decide +kernel
theorem dX0_layPieces_81 : decode cX0_layPieces 81 = .ok (.goto (-66), 3) := by decide +kernel
theorem dX0_layPieces_84 : decode cX0_layPieces 84 = .ok (.aload_n 0, 1) := by decide +kernel
theorem dX0_layPieces_85 : decode cX0_layPieces 85 = .ok (.getfield 44, 3) := by decide +kernel
theorem dX0_layPieces_88 : decode cX0_layPieces 88 = .ok (.iload_n 1, 1) := by decide +kernel
theorem dX0_layPieces_89 : decode cX0_layPieces 89 = .ok (.iload_n 3, 1) := by decide +kernel
theorem dX0_layPieces_90 : decode cX0_layPieces 90 = .ok (.iastore, 1) := by decide +kernel
theorem dX0_layPieces_91 : decode cX0_layPieces 91 = .ok (.iconst 1, 1) := by decide +kernel
theorem dX0_layPieces_92 : decode cX0_layPieces 92 = .ok (.ireturn, 1) := by decide +kernel
theorem dX0_liftPieces_0 : decode cX0_liftPieces 0 = .ok (.iconst 0, 1) := by decide +kernel
theorem dX0_liftPieces_1 : decode cX0_liftPieces 1 = .ok (.istore_n 2, 1) := by decide +kernel
theorem dX0_liftPieces_2 : decode cX0_liftPieces 2 = .ok (.iload_n 2, 1) := by decide +kernel
theorem dX0_liftPieces_3 : decode cX0_liftPieces 3 = .ok (.aload_n 0, 1) := by decide +kernel
theorem dX0_liftPieces_4 : decode cX0_liftPieces 4 = .ok (.getfield 44, 3) := by decide +kernel
theorem dX0_liftPieces_7 : decode cX0_liftPieces 7 = .ok (.iload_n 1, 1) := by decide +kernel
theorem dX0_liftPieces_8 : decode cX0_liftPieces 8 = .ok (.iaload, 1) := by decide +kernel
theorem dX0_liftPieces_9 : decode cX0_liftPieces 9 = .ok (.if_icmp .ge 24, 3) := by decide +kernel
theorem dX0_liftPieces_12 : decode cX0_liftPieces 12 = .ok (.aload_n 0, 1) := by decide +kernel
theorem dX0_liftPieces_13 : decode cX0_liftPieces 13 = .ok (.getfield 24, 3) := by decide +kernel
theorem dX0_liftPieces_16 : decode cX0_liftPieces 16 = .ok (.aload_n 0, 1) := by decide +kernel
theorem dX0_liftPieces_17 : decode cX0_liftPieces 17 = .ok (.getfield 49, 3) := by decide +kernel
theorem dX0_liftPieces_20 : decode cX0_liftPieces 20 = .ok (.iload_n 1, 1) := by decide +kernel
theorem dX0_liftPieces_21 : decode cX0_liftPieces 21 = .ok (.aaload, 1) := by decide +kernel
theorem dX0_liftPieces_22 : decode cX0_liftPieces 22 = .ok (.iload_n 2, 1) := by decide +kernel
theorem dX0_liftPieces_23 : decode cX0_liftPieces 23 = .ok (.iaload, 1) := by decide +kernel
theorem dX0_liftPieces_24 : decode cX0_liftPieces 24 = .ok (.invokevirtual 99, 3) := by decide +kernel
theorem dX0_liftPieces_27 : decode cX0_liftPieces 27 = .ok (.iinc 2 1, 3) := by decide +kernel
theorem dX0_liftPieces_30 : decode cX0_liftPieces 30 = .ok (.goto (-28), 3) := by decide +kernel
theorem dX0_liftPieces_33 : decode cX0_liftPieces 33 = .ok (.aload_n 0, 1) := by decide +kernel
theorem dX0_liftPieces_34 : decode cX0_liftPieces 34 = .ok (.getfield 44, 3) := by decide +kernel
theorem dX0_liftPieces_37 : decode cX0_liftPieces 37 = .ok (.iload_n 1, 1) := by decide +kernel
theorem dX0_liftPieces_38 : decode cX0_liftPieces 38 = .ok (.iconst 0, 1) := by decide +kernel
theorem dX0_liftPieces_39 : decode cX0_liftPieces 39 = .ok (.iastore, 1) := by decide +kernel
theorem dX0_liftPieces_40 : decode cX0_liftPieces 40 = .ok (.return_, 1) := by decide +kernel
theorem dX0_headLetters_0 : decode cX0_headLetters 0 = .ok (.aload_n 0, 1) := by decide +kernel
theorem dX0_headLetters_1 : decode cX0_headLetters 1 = .ok (.getfield 35, 3) := by decide +kernel
theorem dX0_headLetters_4 : decode cX0_headLetters 4 = .ok (.iload_n 1, 1) := by decide +kernel
theorem dX0_headLetters_5 : decode cX0_headLetters 5 = .ok (.iaload, 1) := by decide +kernel
theorem dX0_headLetters_6 : decode cX0_headLetters 6 = .ok (.aload_n 0, 1) := by decide +kernel
theorem dX0_headLetters_7 : decode cX0_headLetters 7 = .ok (.getfield 9, 3) := by decide +kernel
theorem dX0_headLetters_10 : decode cX0_headLetters 10 = .ok (.invokestatic 116, 3) := by decide +kernel
theorem dX0_headLetters_13 : decode cX0_headLetters 13 = .ok (.ireturn, 1) := by decide +kernel
theorem dX0_headCells_0 : decode cX0_headCells 0 = .ok (.iconst 2, 1) := by decide +kernel
theorem dX0_headCells_1 : decode cX0_headCells 1 = .ok (.aload_n 0, 1) := by decide +kernel
theorem dX0_headCells_2 : decode cX0_headCells 2 = .ok (.iload_n 1, 1) := by decide +kernel
theorem dX0_headCells_3 : decode cX0_headCells 3 = .ok (.invokevirtual 113, 3) := by decide +kernel
theorem dX0_headCells_6 : decode cX0_headCells 6 = .ok (.iadd, 1) := by decide +kernel
theorem dX0_headCells_7 : decode cX0_headCells 7 = .ok (.ireturn, 1) := by decide +kernel
theorem dX0_removeRow_0 : decode cX0_removeRow 0 = .ok (.aload_n 0, 1) := by decide +kernel
theorem dX0_removeRow_1 : decode cX0_removeRow 1 = .ok (.iload_n 1, 1) := by decide +kernel
theorem dX0_removeRow_2 : decode cX0_removeRow 2 = .ok (.invokevirtual 95, 3) := by decide +kernel
theorem dX0_removeRow_5 : decode cX0_removeRow 5 = .ok (.aload_n 0, 1) := by decide +kernel
theorem dX0_removeRow_6 : decode cX0_removeRow 6 = .ok (.getfield 24, 3) := by decide +kernel
theorem dX0_removeRow_9 : decode cX0_removeRow 9 = .ok (.aload_n 0, 1) := by decide +kernel
theorem dX0_removeRow_10 : decode cX0_removeRow 10 = .ok (.getfield 41, 3) := by decide +kernel
theorem dX0_removeRow_13 : decode cX0_removeRow 13 = .ok (.iload_n 1, 1) := by decide +kernel
theorem dX0_removeRow_14 : decode cX0_removeRow 14 = .ok (.iaload, 1) := by decide +kernel
theorem dX0_removeRow_15 : decode cX0_removeRow 15 = .ok (.invokevirtual 99, 3) := by decide +kernel
theorem dX0_removeRow_18 : decode cX0_removeRow 18 = .ok (.aload_n 0, 1) := by decide +kernel
theorem dX0_removeRow_19 : decode cX0_removeRow 19 = .ok (.iload_n 1, 1) := by decide +kernel
theorem dX0_removeRow_20 : decode cX0_removeRow 20 = .ok (.invokevirtual 122, 3) := by decide +kernel
theorem dX0_removeRow_23 : decode cX0_removeRow 23 = .ok (.ifCond .eq 16, 3) := by decide +kernel
theorem dX0_removeRow_26 : decode cX0_removeRow 26 = .ok (.aload_n 0, 1) := by decide +kernel
theorem dX0_removeRow_27 : decode cX0_removeRow 27 = .ok (.getfield 24, 3) := by decide +kernel
theorem dX0_removeRow_30 : decode cX0_removeRow 30 = .ok (.aload_n 0, 1) := by decide +kernel
theorem dX0_removeRow_31 : decode cX0_removeRow 31 = .ok (.getfield 38, 3) := by decide +kernel
theorem dX0_removeRow_34 : decode cX0_removeRow 34 = .ok (.iload_n 1, 1) := by decide +kernel
theorem dX0_removeRow_35 : decode cX0_removeRow 35 = .ok (.iaload, 1) := by decide +kernel
theorem dX0_removeRow_36 : decode cX0_removeRow 36 = .ok (.invokevirtual 99, 3) := by decide +kernel
theorem dX0_removeRow_39 : decode cX0_removeRow 39 = .ok (.aload_n 0, 1) := by decide +kernel
theorem dX0_removeRow_40 : decode cX0_removeRow 40 = .ok (.getfield 28, 3) := by decide +kernel
theorem dX0_removeRow_43 : decode cX0_removeRow 43 = .ok (.aload_n 0, 1) := by decide +kernel
theorem dX0_removeRow_44 : decode cX0_removeRow 44 = .ok (.getfield 32, 3) := by decide +kernel
theorem dX0_removeRow_47 : decode cX0_removeRow 47 = .ok (.iload_n 1, 1) := by decide +kernel
theorem dX0_removeRow_48 : decode cX0_removeRow 48 = .ok (.iaload, 1) := by decide +kernel
theorem dX0_removeRow_49 : decode cX0_removeRow 49 = .ok (.iconst (-1), 1) := by decide +kernel
theorem dX0_removeRow_50 : decode cX0_removeRow 50 = .ok (.iastore, 1) := by decide +kernel
theorem dX0_removeRow_51 : decode cX0_removeRow 51 = .ok (.aload_n 0, 1) := by decide +kernel
theorem dX0_removeRow_52 : decode cX0_removeRow 52 = .ok (.getfield 32, 3) := by decide +kernel
theorem dX0_removeRow_55 : decode cX0_removeRow 55 = .ok (.iload_n 1, 1) := by decide +kernel
theorem dX0_removeRow_56 : decode cX0_removeRow 56 = .ok (.iconst (-1), 1) := by decide +kernel
theorem dX0_removeRow_57 : decode cX0_removeRow 57 = .ok (.iastore, 1) := by decide +kernel
theorem dX0_removeRow_58 : decode cX0_removeRow 58 = .ok (.aload_n 0, 1) := by decide +kernel
theorem dX0_removeRow_59 : decode cX0_removeRow 59 = .ok (.dup, 1) := by decide +kernel
theorem dX0_removeRow_60 : decode cX0_removeRow 60 = .ok (.getfield 18, 3) := by decide +kernel
theorem dX0_removeRow_63 : decode cX0_removeRow 63 = .ok (.iconst 1, 1) := by decide +kernel
theorem dX0_removeRow_64 : decode cX0_removeRow 64 = .ok (.isub, 1) := by decide +kernel
theorem dX0_removeRow_65 : decode cX0_removeRow 65 = .ok (.putfield 18, 3) := by decide +kernel
theorem dX0_removeRow_68 : decode cX0_removeRow 68 = .ok (.return_, 1) := by decide +kernel
theorem dX0_packAll_0 : decode cX0_packAll 0 = .ok (.aload_n 0, 1) := by decide +kernel
theorem dX0_packAll_1 : decode cX0_packAll 1 = .ok (.getfield 24, 3) := by decide +kernel
theorem dX0_packAll_4 : decode cX0_packAll 4 = .ok (.invokevirtual 125, 3) := by decide +kernel
theorem dX0_packAll_7 : decode cX0_packAll 7 = .ok (.iconst 0, 1) := by decide +kernel
theorem dX0_packAll_8 : decode cX0_packAll 8 = .ok (.istore_n 1, 1) := by decide +kernel
theorem dX0_packAll_9 : decode cX0_packAll 9 = .ok (.iload_n 1, 1) := by decide +kernel
theorem dX0_packAll_10 : decode cX0_packAll 10 = .ok (.bipush 100, 2) := by decide +kernel
theorem dX0_packAll_12 : decode cX0_packAll 12 = .ok (.if_icmp .ge 34, 3) := by decide +kernel
theorem dX0_packAll_15 : decode cX0_packAll 15 = .ok (.aload_n 0, 1) := by decide +kernel
theorem dX0_packAll_16 : decode cX0_packAll 16 = .ok (.getfield 28, 3) := by decide +kernel
theorem dX0_packAll_19 : decode cX0_packAll 19 = .ok (.iload_n 1, 1) := by decide +kernel
theorem dX0_packAll_20 : decode cX0_packAll 20 = .ok (.iaload, 1) := by decide +kernel
theorem dX0_packAll_21 : decode cX0_packAll 21 = .ok (.iconst (-1), 1) := by decide +kernel
theorem dX0_packAll_22 : decode cX0_packAll 22 = .ok (.if_icmp .eq 18, 3) := by decide +kernel
theorem dX0_packAll_25 : decode cX0_packAll 25 = .ok (.aload_n 0, 1) := by decide +kernel
theorem dX0_packAll_26 : decode cX0_packAll 26 = .ok (.aload_n 0, 1) := by decide +kernel
theorem dX0_packAll_27 : decode cX0_packAll 27 = .ok (.getfield 28, 3) := by decide +kernel
theorem dX0_packAll_30 : decode cX0_packAll 30 = .ok (.iload_n 1, 1) := by decide +kernel
theorem dX0_packAll_31 : decode cX0_packAll 31 = .ok (.iaload, 1) := by decide +kernel
theorem dX0_packAll_32 : decode cX0_packAll 32 = .ok (.invokevirtual 78, 3) := by decide +kernel
theorem dX0_packAll_35 : decode cX0_packAll 35 = .ok (.ifCond .ne 5, 3) := by decide +kernel
theorem dX0_packAll_38 : decode cX0_packAll 38 = .ok (.iconst 0, 1) := by decide +kernel
theorem dX0_packAll_39 : decode cX0_packAll 39 = .ok (.ireturn, 1) := by decide +kernel
theorem dX0_packAll_40 : decode cX0_packAll 40 = .ok (.iinc 1 1, 3) := by decide +kernel
theorem dX0_packAll_43 : decode cX0_packAll 43 = .ok (.goto (-34), 3) := by decide +kernel
theorem dX0_packAll_46 : decode cX0_packAll 46 = .ok (.iconst 1, 1) := by decide +kernel
theorem dX0_packAll_47 : decode cX0_packAll 47 = .ok (.ireturn, 1) := by decide +kernel
theorem dX0_hasMoved_0 : decode cX0_hasMoved 0 = .ok (.aload_n 0, 1) := by decide +kernel
theorem dX0_hasMoved_1 : decode cX0_hasMoved 1 = .ok (.getfield 41, 3) := by decide +kernel
theorem dX0_hasMoved_4 : decode cX0_hasMoved 4 = .ok (.iload_n 1, 1) := by decide +kernel
theorem dX0_hasMoved_5 : decode cX0_hasMoved 5 = .ok (.iaload, 1) := by decide +kernel
theorem dX0_hasMoved_6 : decode cX0_hasMoved 6 = .ok (.aload_n 0, 1) := by decide +kernel
theorem dX0_hasMoved_7 : decode cX0_hasMoved 7 = .ok (.getfield 38, 3) := by decide +kernel
theorem dX0_hasMoved_10 : decode cX0_hasMoved 10 = .ok (.iload_n 1, 1) := by decide +kernel
theorem dX0_hasMoved_11 : decode cX0_hasMoved 11 = .ok (.iaload, 1) := by decide +kernel
theorem dX0_hasMoved_12 : decode cX0_hasMoved 12 = .ok (.if_icmp .eq 7, 3) := by decide +kernel
theorem dX0_hasMoved_15 : decode cX0_hasMoved 15 = .ok (.iconst 1, 1) := by decide +kernel
theorem dX0_hasMoved_16 : decode cX0_hasMoved 16 = .ok (.goto 4, 3) := by decide +kernel
theorem dX0_hasMoved_19 : decode cX0_hasMoved 19 = .ok (.iconst 0, 1) := by decide +kernel
theorem dX0_hasMoved_20 : decode cX0_hasMoved 20 = .ok (.ireturn, 1) := by decide +kernel
theorem dX0_costOf_0 : decode cX0_costOf 0 = .ok (.aload_n 0, 1) := by decide +kernel
theorem dX0_costOf_1 : decode cX0_costOf 1 = .ok (.getfield 41, 3) := by decide +kernel
theorem dX0_costOf_4 : decode cX0_costOf 4 = .ok (.iload_n 1, 1) := by decide +kernel
theorem dX0_costOf_5 : decode cX0_costOf 5 = .ok (.iaload, 1) := by decide +kernel
theorem dX0_costOf_6 : decode cX0_costOf 6 = .ok (.bipush 40, 2) := by decide +kernel
theorem dX0_costOf_8 : decode cX0_costOf 8 = .ok (.idiv, 1) := by decide +kernel
theorem dX0_costOf_9 : decode cX0_costOf 9 = .ok (.istore_n 2, 1) := by decide +kernel
theorem dX0_costOf_10 : decode cX0_costOf 10 = .ok (.iload_n 2, 1) := by decide +kernel
theorem dX0_costOf_11 : decode cX0_costOf 11 = .ok (.aload_n 0, 1) := by decide +kernel
theorem dX0_costOf_12 : decode cX0_costOf 12 = .ok (.getfield 38, 3) := by decide +kernel
theorem dX0_costOf_15 : decode cX0_costOf 15 = .ok (.iload_n 1, 1) := by decide +kernel
theorem dX0_costOf_16 : decode cX0_costOf 16 = .ok (.iaload, 1) := by decide +kernel
theorem dX0_costOf_17 : decode cX0_costOf 17 = .ok (.bipush 40, 2) := by decide +kernel
theorem dX0_costOf_19 : decode cX0_costOf 19 = .ok (.idiv, 1) := by decide +kernel
theorem dX0_costOf_20 : decode cX0_costOf 20 = .ok (.if_icmp .ne 7, 3) := by decide +kernel
theorem dX0_costOf_23 : decode cX0_costOf 23 = .ok (.iconst 1, 1) := by decide +kernel
theorem dX0_costOf_24 : decode cX0_costOf 24 = .ok (.goto 4, 3) := by decide +kernel
theorem dX0_costOf_27 : decode cX0_costOf 27 = .ok (.iconst 2, 1) := by decide +kernel
theorem dX0_costOf_28 : decode cX0_costOf 28 = .ok (.istore_n 3, 1) := by decide +kernel
theorem dX0_costOf_29 : decode cX0_costOf 29 = .ok (.iconst 0, 1) := by decide +kernel
theorem dX0_costOf_30 : decode cX0_costOf 30 = .ok (.istore 4, 2) := by decide +kernel
theorem dX0_costOf_32 : decode cX0_costOf 32 = .ok (.iload 4, 2) := by decide +kernel
theorem dX0_costOf_34 : decode cX0_costOf 34 = .ok (.aload_n 0, 1) := by decide +kernel
theorem dX0_costOf_35 : decode cX0_costOf 35 = .ok (.getfield 44, 3) := by decide +kernel
theorem dX0_costOf_38 : decode cX0_costOf 38 = .ok (.iload_n 1, 1) := by decide +kernel
theorem dX0_costOf_39 : decode cX0_costOf 39 = .ok (.iaload, 1) := by decide +kernel
theorem dX0_costOf_40 : decode cX0_costOf 40 = .ok (.if_icmp .ge 35, 3) := by decide +kernel
theorem dX0_costOf_43 : decode cX0_costOf 43 = .ok (.aload_n 0, 1) := by decide +kernel
theorem dX0_costOf_44 : decode cX0_costOf 44 = .ok (.getfield 49, 3) := by decide +kernel
theorem dX0_costOf_47 : decode cX0_costOf 47 = .ok (.iload_n 1, 1) := by decide +kernel
theorem dX0_costOf_48 : decode cX0_costOf 48 = .ok (.aaload, 1) := by decide +kernel
theorem dX0_costOf_49 : decode cX0_costOf 49 = .ok (.iload 4, 2) := by decide +kernel
theorem dX0_costOf_51 : decode cX0_costOf 51 = .ok (.iaload, 1) := by decide +kernel
theorem dX0_costOf_52 : decode cX0_costOf 52 = .ok (.bipush 40, 2) := by decide +kernel
theorem dX0_costOf_54 : decode cX0_costOf 54 = .ok (.idiv, 1) := by decide +kernel
theorem dX0_costOf_55 : decode cX0_costOf 55 = .ok (.istore 5, 2) := by decide +kernel
theorem dX0_costOf_57 : decode cX0_costOf 57 = .ok (.iload 5, 2) := by decide +kernel
theorem dX0_costOf_59 : decode cX0_costOf 59 = .ok (.iload_n 2, 1) := by decide +kernel
theorem dX0_costOf_60 : decode cX0_costOf 60 = .ok (.if_icmp .eq 6, 3) := by decide +kernel
theorem dX0_costOf_63 : decode cX0_costOf 63 = .ok (.iinc 3 1, 3) := by decide +kernel
theorem dX0_costOf_66 : decode cX0_costOf 66 = .ok (.iload 5, 2) := by decide +kernel
theorem dX0_costOf_68 : decode cX0_costOf 68 = .ok (.istore_n 2, 1) := by decide +kernel
theorem dX0_costOf_69 : decode cX0_costOf 69 = .ok (.iinc 4 1, 3) := by decide +kernel
theorem dX0_costOf_72 : decode cX0_costOf 72 = .ok (.goto (-40), 3) := by decide +kernel
theorem dX0_costOf_75 : decode cX0_costOf 75 = .ok (.iload_n 3, 1) := by decide +kernel
theorem dX0_costOf_76 : decode cX0_costOf 76 = .ok (.ireturn, 1) := by decide +kernel
theorem dX0_cellsOf_0 : decode cX0_cellsOf 0 = .ok (.aload_n 0, 1) := by decide +kernel
theorem dX0_cellsOf_1 : decode cX0_cellsOf 1 = .ok (.getfield 24, 3) := by decide +kernel
theorem dX0_cellsOf_4 : decode cX0_cellsOf 4 = .ok (.getfield 128, 3) := by decide +kernel
theorem dX0_cellsOf_7 : decode cX0_cellsOf 7 = .ok (.aload_n 0, 1) := by decide +kernel
theorem dX0_cellsOf_8 : decode cX0_cellsOf 8 = .ok (.getfield 41, 3) := by decide +kernel
theorem dX0_cellsOf_11 : decode cX0_cellsOf 11 = .ok (.iload_n 1, 1) := by decide +kernel
theorem dX0_cellsOf_12 : decode cX0_cellsOf 12 = .ok (.iaload, 1) := by decide +kernel
theorem dX0_cellsOf_13 : decode cX0_cellsOf 13 = .ok (.iaload, 1) := by decide +kernel
theorem dX0_cellsOf_14 : decode cX0_cellsOf 14 = .ok (.istore_n 2, 1) := by decide +kernel
theorem dX0_cellsOf_15 : decode cX0_cellsOf 15 = .ok (.iconst 0, 1) := by decide +kernel
theorem dX0_cellsOf_16 : decode cX0_cellsOf 16 = .ok (.istore_n 3, 1) := by decide +kernel
theorem dX0_cellsOf_17 : decode cX0_cellsOf 17 = .ok (.iload_n 3, 1) := by decide +kernel
theorem dX0_cellsOf_18 : decode cX0_cellsOf 18 = .ok (.aload_n 0, 1) := by decide +kernel
theorem dX0_cellsOf_19 : decode cX0_cellsOf 19 = .ok (.getfield 44, 3) := by decide +kernel
theorem dX0_cellsOf_22 : decode cX0_cellsOf 22 = .ok (.iload_n 1, 1) := by decide +kernel
theorem dX0_cellsOf_23 : decode cX0_cellsOf 23 = .ok (.iaload, 1) := by decide +kernel
theorem dX0_cellsOf_24 : decode cX0_cellsOf 24 = .ok (.if_icmp .ge 28, 3) := by decide +kernel
theorem dX0_cellsOf_27 : decode cX0_cellsOf 27 = .ok (.iload_n 2, 1) := by decide +kernel
theorem dX0_cellsOf_28 : decode cX0_cellsOf 28 = .ok (.aload_n 0, 1) := by decide +kernel
theorem dX0_cellsOf_29 : decode cX0_cellsOf 29 = .ok (.getfield 24, 3) := by decide +kernel
theorem dX0_cellsOf_32 : decode cX0_cellsOf 32 = .ok (.getfield 128, 3) := by decide +kernel
theorem dX0_cellsOf_35 : decode cX0_cellsOf 35 = .ok (.aload_n 0, 1) := by decide +kernel
theorem dX0_cellsOf_36 : decode cX0_cellsOf 36 = .ok (.getfield 49, 3) := by decide +kernel
theorem dX0_cellsOf_39 : decode cX0_cellsOf 39 = .ok (.iload_n 1, 1) := by decide +kernel
theorem dX0_cellsOf_40 : decode cX0_cellsOf 40 = .ok (.aaload, 1) := by decide +kernel
theorem dX0_cellsOf_41 : decode cX0_cellsOf 41 = .ok (.iload_n 3, 1) := by decide +kernel
theorem dX0_cellsOf_42 : decode cX0_cellsOf 42 = .ok (.iaload, 1) := by decide +kernel
theorem dX0_cellsOf_43 : decode cX0_cellsOf 43 = .ok (.iaload, 1) := by decide +kernel
theorem dX0_cellsOf_44 : decode cX0_cellsOf 44 = .ok (.iadd, 1) := by decide +kernel
theorem dX0_cellsOf_45 : decode cX0_cellsOf 45 = .ok (.istore_n 2, 1) := by decide +kernel
theorem dX0_cellsOf_46 : decode cX0_cellsOf 46 = .ok (.iinc 3 1, 3) := by decide +kernel
theorem dX0_cellsOf_49 : decode cX0_cellsOf 49 = .ok (.goto (-32), 3) := by decide +kernel
theorem dX0_cellsOf_52 : decode cX0_cellsOf 52 = .ok (.aload_n 0, 1) := by decide +kernel
theorem dX0_cellsOf_53 : decode cX0_cellsOf 53 = .ok (.iload_n 1, 1) := by decide +kernel
theorem dX0_cellsOf_54 : decode cX0_cellsOf 54 = .ok (.invokevirtual 122, 3) := by decide +kernel
theorem dX0_cellsOf_57 : decode cX0_cellsOf 57 = .ok (.ifCond .eq 9, 3) := by decide +kernel
theorem dX0_cellsOf_60 : decode cX0_cellsOf 60 = .ok (.iload_n 2, 1) := by decide +kernel
theorem dX0_cellsOf_61 : decode cX0_cellsOf 61 = .ok (.iconst 1, 1) := by decide +kernel
theorem dX0_cellsOf_62 : decode cX0_cellsOf 62 = .ok (.iadd, 1) := by decide +kernel
theorem dX0_cellsOf_63 : decode cX0_cellsOf 63 = .ok (.goto 4, 3) := by decide +kernel
theorem dX0_cellsOf_66 : decode cX0_cellsOf 66 = .ok (.iload_n 2, 1) := by decide +kernel
theorem dX0_cellsOf_67 : decode cX0_cellsOf 67 = .ok (.ireturn, 1) := by decide +kernel
theorem dX0_costInAll_0 : decode cX0_costInAll 0 = .ok (.iconst 0, 1) := by decide +kernel
theorem dX0_costInAll_1 : decode cX0_costInAll 1 = .ok (.istore_n 1, 1) := by decide +kernel
theorem dX0_costInAll_2 : decode cX0_costInAll 2 = .ok (.iconst 0, 1) := by decide +kernel
theorem dX0_costInAll_3 : decode cX0_costInAll 3 = .ok (.istore_n 2, 1) := by decide +kernel
theorem dX0_costInAll_4 : decode cX0_costInAll 4 = .ok (.iload_n 2, 1) := by decide +kernel
theorem dX0_costInAll_5 : decode cX0_costInAll 5 = .ok (.bipush 30, 2) := by decide +kernel
theorem dX0_costInAll_7 : decode cX0_costInAll 7 = .ok (.if_icmp .ge 27, 3) := by decide +kernel
theorem dX0_costInAll_10 : decode cX0_costInAll 10 = .ok (.aload_n 0, 1) := by decide +kernel
theorem dX0_costInAll_11 : decode cX0_costInAll 11 = .ok (.getfield 32, 3) := by decide +kernel
theorem dX0_costInAll_14 : decode cX0_costInAll 14 = .ok (.iload_n 2, 1) := by decide +kernel
theorem dX0_costInAll_15 : decode cX0_costInAll 15 = .ok (.iaload, 1) := by decide +kernel
theorem dX0_costInAll_16 : decode cX0_costInAll 16 = .ok (.iconst (-1), 1) := by decide +kernel
theorem dX0_costInAll_17 : decode cX0_costInAll 17 = .ok (.if_icmp .eq 11, 3) := by decide +kernel
theorem dX0_costInAll_20 : decode cX0_costInAll 20 = .ok (.iload_n 1, 1) := by decide +kernel
theorem dX0_costInAll_21 : decode cX0_costInAll 21 = .ok (.aload_n 0, 1) := by decide +kernel
theorem dX0_costInAll_22 : decode cX0_costInAll 22 = .ok (.iload_n 2, 1) := by decide +kernel
theorem dX0_costInAll_23 : decode cX0_costInAll 23 = .ok (.invokevirtual 131, 3) := by decide +kernel
theorem dX0_costInAll_26 : decode cX0_costInAll 26 = .ok (.iadd, 1) := by decide +kernel
theorem dX0_costInAll_27 : decode cX0_costInAll 27 = .ok (.istore_n 1, 1) := by decide +kernel
theorem dX0_costInAll_28 : decode cX0_costInAll 28 = .ok (.iinc 2 1, 3) := by decide +kernel
theorem dX0_costInAll_31 : decode cX0_costInAll 31 = .ok (.goto (-27), 3) := by decide +kernel
theorem dX0_costInAll_34 : decode cX0_costInAll 34 = .ok (.iload_n 1, 1) := by decide +kernel
theorem dX0_costInAll_35 : decode cX0_costInAll 35 = .ok (.ireturn, 1) := by decide +kernel
theorem dX0_greatestCost_0 : decode cX0_greatestCost 0 = .ok (.iconst 0, 1) := by decide +kernel
theorem dX0_greatestCost_1 : decode cX0_greatestCost 1 = .ok (.istore_n 1, 1) := by decide +kernel
theorem dX0_greatestCost_2 : decode cX0_greatestCost 2 = .ok (.iconst 0, 1) := by decide +kernel
theorem dX0_greatestCost_3 : decode cX0_greatestCost 3 = .ok (.istore_n 2, 1) := by decide +kernel
theorem dX0_greatestCost_4 : decode cX0_greatestCost 4 = .ok (.iload_n 2, 1) := by decide +kernel
theorem dX0_greatestCost_5 : decode cX0_greatestCost 5 = .ok (.bipush 30, 2) := by decide +kernel
theorem dX0_greatestCost_7 : decode cX0_greatestCost 7 = .ok (.if_icmp .ge 29, 3) := by decide +kernel
theorem dX0_greatestCost_10 : decode cX0_greatestCost 10 = .ok (.aload_n 0, 1) := by decide +kernel
theorem dX0_greatestCost_11 : decode cX0_greatestCost 11 = .ok (.getfield 32, 3) := by decide +kernel
theorem dX0_greatestCost_14 : decode cX0_greatestCost 14 = .ok (.iload_n 2, 1) := by decide +kernel
theorem dX0_greatestCost_15 : decode cX0_greatestCost 15 = .ok (.iaload, 1) := by decide +kernel
theorem dX0_greatestCost_16 : decode cX0_greatestCost 16 = .ok (.iconst (-1), 1) := by decide +kernel
theorem dX0_greatestCost_17 : decode cX0_greatestCost 17 = .ok (.if_icmp .eq 13, 3) := by decide +kernel
theorem dX0_greatestCost_20 : decode cX0_greatestCost 20 = .ok (.iload_n 1, 1) := by decide +kernel
theorem dX0_greatestCost_21 : decode cX0_greatestCost 21 = .ok (.aload_n 0, 1) := by decide +kernel
theorem dX0_greatestCost_22 : decode cX0_greatestCost 22 = .ok (.iload_n 2, 1) := by decide +kernel
theorem dX0_greatestCost_23 : decode cX0_greatestCost 23 = .ok (.invokevirtual 131, 3) := by decide +kernel
theorem dX0_greatestCost_26 : decode cX0_greatestCost 26 = .ok (.invokestatic 134, 3) := by decide +kernel
theorem dX0_greatestCost_29 : decode cX0_greatestCost 29 = .ok (.istore_n 1, 1) := by decide +kernel
theorem dX0_greatestCost_30 : decode cX0_greatestCost 30 = .ok (.iinc 2 1, 3) := by decide +kernel
theorem dX0_greatestCost_33 : decode cX0_greatestCost 33 = .ok (.goto (-29), 3) := by decide +kernel
theorem dX0_greatestCost_36 : decode cX0_greatestCost 36 = .ok (.iload_n 1, 1) := by decide +kernel
theorem dX0_greatestCost_37 : decode cX0_greatestCost 37 = .ok (.ireturn, 1) := by decide +kernel
theorem dX0_lettersInAll_0 : decode cX0_lettersInAll 0 = .ok (.iconst 0, 1) := by decide +kernel
theorem dX0_lettersInAll_1 : decode cX0_lettersInAll 1 = .ok (.istore_n 1, 1) := by decide +kernel
theorem dX0_lettersInAll_2 : decode cX0_lettersInAll 2 = .ok (.iconst 0, 1) := by decide +kernel
theorem dX0_lettersInAll_3 : decode cX0_lettersInAll 3 = .ok (.istore_n 2, 1) := by decide +kernel
theorem dX0_lettersInAll_4 : decode cX0_lettersInAll 4 = .ok (.iload_n 2, 1) := by decide +kernel
theorem dX0_lettersInAll_5 : decode cX0_lettersInAll 5 = .ok (.bipush 30, 2) := by decide +kernel
theorem dX0_lettersInAll_7 : decode cX0_lettersInAll 7 = .ok (.if_icmp .ge 28, 3) := by decide +kernel
theorem dX0_lettersInAll_10 : decode cX0_lettersInAll 10 = .ok (.aload_n 0, 1) := by decide +kernel
theorem dX0_lettersInAll_11 : decode cX0_lettersInAll 11 = .ok (.getfield 32, 3) := by decide +kernel
theorem dX0_lettersInAll_14 : decode cX0_lettersInAll 14 = .ok (.iload_n 2, 1) := by decide +kernel
theorem dX0_lettersInAll_15 : decode cX0_lettersInAll 15 = .ok (.iaload, 1) := by decide +kernel
theorem dX0_lettersInAll_16 : decode cX0_lettersInAll 16 = .ok (.iconst (-1), 1) := by decide +kernel
theorem dX0_lettersInAll_17 : decode cX0_lettersInAll 17 = .ok (.if_icmp .eq 12, 3) := by decide +kernel
theorem dX0_lettersInAll_20 : decode cX0_lettersInAll 20 = .ok (.iload_n 1, 1) := by decide +kernel
theorem dX0_lettersInAll_21 : decode cX0_lettersInAll 21 = .ok (.aload_n 0, 1) := by decide +kernel
theorem dX0_lettersInAll_22 : decode cX0_lettersInAll 22 = .ok (.getfield 35, 3) := by decide +kernel
theorem dX0_lettersInAll_25 : decode cX0_lettersInAll 25 = .ok (.iload_n 2, 1) := by decide +kernel
theorem dX0_lettersInAll_26 : decode cX0_lettersInAll 26 = .ok (.iaload, 1) := by decide +kernel
theorem dX0_lettersInAll_27 : decode cX0_lettersInAll 27 = .ok (.iadd, 1) := by decide +kernel
theorem dX0_lettersInAll_28 : decode cX0_lettersInAll 28 = .ok (.istore_n 1, 1) := by decide +kernel
theorem dX0_lettersInAll_29 : decode cX0_lettersInAll 29 = .ok (.iinc 2 1, 3) := by decide +kernel
theorem dX0_lettersInAll_32 : decode cX0_lettersInAll 32 = .ok (.goto (-28), 3) := by decide +kernel
theorem dX0_lettersInAll_35 : decode cX0_lettersInAll 35 = .ok (.iload_n 1, 1) := by decide +kernel
theorem dX0_lettersInAll_36 : decode cX0_lettersInAll 36 = .ok (.ireturn, 1) := by decide +kernel
theorem dX1_init_0 : decode cX1_init 0 = .ok (.aload_n 0, 1) := by decide +kernel
theorem dX1_init_1 : decode cX1_init 1 = .ok (.invokespecial 3, 3) := by decide +kernel
theorem dX1_init_4 : decode cX1_init 4 = .ok (.aload_n 0, 1) := by decide +kernel
theorem dX1_init_5 : decode cX1_init 5 = .ok (.bipush 6, 2) := by decide +kernel
theorem dX1_init_7 : decode cX1_init 7 = .ok (.anewarray 9, 3) := by decide +kernel
theorem dX1_init_10 : decode cX1_init 10 = .ok (.putfield 11, 3) := by decide +kernel
theorem dX1_init_13 : decode cX1_init 13 = .ok (.aload_n 0, 1) := by decide +kernel
theorem dX1_init_14 : decode cX1_init 14 = .ok (.iconst 0, 1) := by decide +kernel
theorem dX1_init_15 : decode cX1_init 15 = .ok (.putfield 17, 3) := by decide +kernel
theorem dX1_init_18 : decode cX1_init 18 = .ok (.aload_n 0, 1) := by decide +kernel
theorem dX1_init_19 : decode cX1_init 19 = .ok (.iconst 0, 1) := by decide +kernel
theorem dX1_init_20 : decode cX1_init 20 = .ok (.putfield 21, 3) := by decide +kernel
theorem dX1_init_23 : decode cX1_init 23 = .ok (.return_, 1) := by decide +kernel
theorem dX1_record_0 : decode cX1_record 0 = .ok (.aload_n 0, 1) := by decide +kernel
theorem dX1_record_1 : decode cX1_record 1 = .ok (.getfield 21, 3) := by decide +kernel
theorem dX1_record_4 : decode cX1_record 4 = .ok (.aload_n 0, 1) := by decide +kernel
theorem dX1_record_5 : decode cX1_record 5 = .ok (.getfield 17, 3) := by decide +kernel
theorem dX1_record_8 : decode cX1_record 8 = .ok (.iadd, 1) := by decide +kernel
theorem dX1_record_9 : decode cX1_record 9 = .ok (.bipush 6, 2) := by decide +kernel
theorem dX1_record_11 : decode cX1_record 11 = .ok (.irem, 1) := by decide +kernel
theorem dX1_record_12 : decode cX1_record 12 = .ok (.istore_n 2, 1) := by decide +kernel
theorem dX1_record_13 : decode cX1_record 13 = .ok (.aload_n 0, 1) := by decide +kernel
theorem dX1_record_14 : decode cX1_record 14 = .ok (.getfield 11, 3) := by decide +kernel
theorem dX1_record_17 : decode cX1_record 17 = .ok (.iload_n 2, 1) := by decide +kernel
theorem dX1_record_18 : decode cX1_record 18 = .ok (.aaload, 1) := by decide +kernel
theorem dX1_record_19 : decode cX1_record 19 = .ok (.ifnonnull 16, 3) := by decide +kernel
theorem dX1_record_22 : decode cX1_record 22 = .ok (.aload_n 0, 1) := by decide +kernel
theorem dX1_record_23 : decode cX1_record 23 = .ok (.getfield 11, 3) := by decide +kernel
theorem dX1_record_26 : decode cX1_record 26 = .ok (.iload_n 2, 1) := by decide +kernel
theorem dX1_record_27 : decode cX1_record 27 = .ok (.new 9, 3) := by decide +kernel
theorem dX1_record_30 : decode cX1_record 30 = .ok (.dup, 1) := by decide +kernel
theorem dX1_record_31 : decode cX1_record 31 = .ok (.invokespecial 24, 3) := by decide +kernel
theorem dX1_record_34 : decode cX1_record 34 = .ok (.aastore, 1) := by decide +kernel
theorem dX1_record_35 : decode cX1_record 35 = .ok (.aload_n 0, 1) := by decide +kernel
theorem dX1_record_36 : decode cX1_record 36 = .ok (.getfield 11, 3) := by decide +kernel
theorem dX1_record_39 : decode cX1_record 39 = .ok (.iload_n 2, 1) := by decide +kernel
theorem dX1_record_40 : decode cX1_record 40 = .ok (.aaload, 1) := by decide +kernel
theorem dX1_record_41 : decode cX1_record 41 = .ok (.aload_n 1, 1) := by decide +kernel
theorem dX1_record_42 : decode cX1_record 42 = .ok (.invokevirtual 25, 3) := by decide +kernel
theorem dX1_record_45 : decode cX1_record 45 = .ok (.aload_n 0, 1) := by decide +kernel
theorem dX1_record_46 : decode cX1_record 46 = .ok (.getfield 17, 3) := by decide +kernel
theorem dX1_record_49 : decode cX1_record 49 = .ok (.bipush 6, 2) := by decide +kernel
theorem dX1_record_51 : decode cX1_record 51 = .ok (.if_icmp .ge 16, 3) := by decide +kernel
theorem dX1_record_54 : decode cX1_record 54 = .ok (.aload_n 0, 1) := by decide +kernel
theorem dX1_record_55 : decode cX1_record 55 = .ok (.dup, 1) := by decide +kernel
theorem dX1_record_56 : decode cX1_record 56 = .ok (.getfield 17, 3) := by decide +kernel
theorem dX1_record_59 : decode cX1_record 59 = .ok (.iconst 1, 1) := by decide +kernel
theorem dX1_record_60 : decode cX1_record 60 = .ok (.iadd, 1) := by decide +kernel
theorem dX1_record_61 : decode cX1_record 61 = .ok (.putfield 17, 3) := by decide +kernel
theorem dX1_record_64 : decode cX1_record 64 = .ok (.goto 16, 3) := by decide +kernel
theorem dX1_record_67 : decode cX1_record 67 = .ok (.aload_n 0, 1) := by decide +kernel
theorem dX1_record_68 : decode cX1_record 68 = .ok (.aload_n 0, 1) := by decide +kernel
theorem dX1_record_69 : decode cX1_record 69 = .ok (.getfield 21, 3) := by decide +kernel
theorem dX1_record_72 : decode cX1_record 72 = .ok (.iconst 1, 1) := by decide +kernel
theorem dX1_record_73 : decode cX1_record 73 = .ok (.iadd, 1) := by decide +kernel
theorem dX1_record_74 : decode cX1_record 74 = .ok (.bipush 6, 2) := by decide +kernel
theorem dX1_record_76 : decode cX1_record 76 = .ok (.irem, 1) := by decide +kernel
theorem dX1_record_77 : decode cX1_record 77 = .ok (.putfield 21, 3) := by decide +kernel
theorem dX1_record_80 : decode cX1_record 80 = .ok (.return_, 1) := by decide +kernel
theorem dX1_giveBack_0 : decode cX1_giveBack 0 = .ok (.aload_n 0, 1) := by decide +kernel
theorem dX1_giveBack_1 : decode cX1_giveBack 1 = .ok (.getfield 21, 3) := by decide +kernel
theorem dX1_giveBack_4 : decode cX1_giveBack 4 = .ok (.aload_n 0, 1) := by decide +kernel
theorem dX1_giveBack_5 : decode cX1_giveBack 5 = .ok (.getfield 17, 3) := by decide +kernel
theorem dX1_giveBack_8 : decode cX1_giveBack 8 = .ok (.iadd, 1) := by decide +kernel
theorem dX1_giveBack_9 : decode cX1_giveBack 9 = .ok (.iconst 1, 1) := by decide +kernel
theorem dX1_giveBack_10 : decode cX1_giveBack 10 = .ok (.isub, 1) := by decide +kernel
theorem dX1_giveBack_11 : decode cX1_giveBack 11 = .ok (.bipush 6, 2) := by decide +kernel
theorem dX1_giveBack_13 : decode cX1_giveBack 13 = .ok (.irem, 1) := by decide +kernel
theorem dX1_giveBack_14 : decode cX1_giveBack 14 = .ok (.istore_n 2, 1) := by decide +kernel
theorem dX1_giveBack_15 : decode cX1_giveBack 15 = .ok (.aload_n 0, 1) := by decide +kernel
theorem dX1_giveBack_16 : decode cX1_giveBack 16 = .ok (.getfield 17, 3) := by decide +kernel
theorem dX1_giveBack_19 : decode cX1_giveBack 19 = .ok (.ifCond .eq 12, 3) := by decide +kernel
theorem dX1_giveBack_22 : decode cX1_giveBack 22 = .ok (.aload_n 0, 1) := by decide +kernel
theorem dX1_giveBack_23 : decode cX1_giveBack 23 = .ok (.getfield 11, 3) := by decide +kernel
theorem dX1_giveBack_26 : decode cX1_giveBack 26 = .ok (.iload_n 2, 1) := by decide +kernel
theorem dX1_giveBack_27 : decode cX1_giveBack 27 = .ok (.aaload, 1) := by decide +kernel
theorem dX1_giveBack_28 : decode cX1_giveBack 28 = .ok (.ifnonnull 4, 3) := by decide +kernel
theorem dX1_giveBack_31 : decode cX1_giveBack 31 = .ok (.return_, 1) := by decide +kernel
theorem dX1_giveBack_32 : decode cX1_giveBack 32 = .ok (.aload_n 1, 1) := by decide +kernel
theorem dX1_giveBack_33 : decode cX1_giveBack 33 = .ok (.aload_n 0, 1) := by decide +kernel
theorem dX1_giveBack_34 : decode cX1_giveBack 34 = .ok (.getfield 11, 3) := by decide +kernel
theorem dX1_giveBack_37 : decode cX1_giveBack 37 = .ok (.iload_n 2, 1) := by decide +kernel
theorem dX1_giveBack_38 : decode cX1_giveBack 38 = .ok (.aaload, 1) := by decide +kernel
theorem dX1_giveBack_39 : decode cX1_giveBack 39 = .ok (.invokevirtual 25, 3) := by decide +kernel
theorem dX1_giveBack_42 : decode cX1_giveBack 42 = .ok (.aload_n 0, 1) := by decide +kernel
theorem dX1_giveBack_43 : decode cX1_giveBack 43 = .ok (.dup, 1) := by decide +kernel
theorem dX1_giveBack_44 : decode cX1_giveBack 44 = .ok (.getfield 17, 3) := by decide +kernel
theorem dX1_giveBack_47 : decode cX1_giveBack 47 = .ok (.iconst 1, 1) := by decide +kernel
theorem dX1_giveBack_48 : decode cX1_giveBack 48 = .ok (.isub, 1) := by decide +kernel
theorem dX1_giveBack_49 : decode cX1_giveBack 49 = .ok (.putfield 17, 3) := by decide +kernel
theorem dX1_giveBack_52 : decode cX1_giveBack 52 = .ok (.return_, 1) := by decide +kernel
theorem dX2_init_0 : decode cX2_init 0 = .ok (.aload_n 0, 1) := by decide +kernel
theorem dX2_init_1 : decode cX2_init 1 = .ok (.invokespecial 3, 3) := by decide +kernel
theorem dX2_init_4 : decode cX2_init 4 = .ok (.aload_n 0, 1) := by decide +kernel
theorem dX2_init_5 : decode cX2_init 5 = .ok (.bipush 80, 2) := by decide +kernel
theorem dX2_init_7 : decode cX2_init 7 = .ok (.newarray .int, 2) := by decide +kernel
theorem dX2_init_9 : decode cX2_init 9 = .ok (.putfield 9, 3) := by decide +kernel
theorem dX2_init_12 : decode cX2_init 12 = .ok (.aload_n 0, 1) := by decide +kernel
theorem dX2_init_13 : decode cX2_init 13 = .ok (.iconst 0, 1) := by decide +kernel
theorem dX2_init_14 : decode cX2_init 14 = .ok (.putfield 15, 3) := by decide +kernel
theorem dX2_init_17 : decode cX2_init 17 = .ok (.aload_n 0, 1) := by decide +kernel
theorem dX2_init_18 : decode cX2_init 18 = .ok (.iconst 0, 1) := by decide +kernel
theorem dX2_init_19 : decode cX2_init 19 = .ok (.putfield 19, 3) := by decide +kernel
theorem dX2_init_22 : decode cX2_init 22 = .ok (.aload_n 0, 1) := by decide +kernel
theorem dX2_init_23 : decode cX2_init 23 = .ok (.bipush 27, 2) := by decide +kernel
theorem dX2_init_25 : decode cX2_init 25 = .ok (.newarray .int, 2) := by decide +kernel
theorem dX2_init_27 : decode cX2_init 27 = .ok (.putfield 22, 3) := by decide +kernel
theorem dX2_init_30 : decode cX2_init 30 = .ok (.aload_n 0, 1) := by decide +kernel
theorem dX2_init_31 : decode cX2_init 31 = .ok (.bipush 27, 2) := by decide +kernel
theorem dX2_init_33 : decode cX2_init 33 = .ok (.newarray .int, 2) := by decide +kernel
theorem dX2_init_35 : decode cX2_init 35 = .ok (.putfield 25, 3) := by decide +kernel
theorem dX2_init_38 : decode cX2_init 38 = .ok (.aload_n 0, 1) := by decide +kernel
theorem dX2_init_39 : decode cX2_init 39 = .ok (.bipush 27, 2) := by decide +kernel
theorem dX2_init_41 : decode cX2_init 41 = .ok (.newarray .int, 2) := by decide +kernel
theorem dX2_init_43 : decode cX2_init 43 = .ok (.putfield 28, 3) := by decide +kernel
theorem dX2_init_46 : decode cX2_init 46 = .ok (.aload_n 0, 1) := by decide +kernel
theorem dX2_init_47 : decode cX2_init 47 = .ok (.iconst 0, 1) := by decide +kernel
theorem dX2_init_48 : decode cX2_init 48 = .ok (.putfield 31, 3) := by decide +kernel
theorem dX2_init_51 : decode cX2_init 51 = .ok (.aload_n 0, 1) := by decide +kernel
theorem dX2_init_52 : decode cX2_init 52 = .ok (.iconst 0, 1) := by decide +kernel
theorem dX2_init_53 : decode cX2_init 53 = .ok (.putfield 35, 3) := by decide +kernel
theorem dX2_init_56 : decode cX2_init 56 = .ok (.aload_n 0, 1) := by decide +kernel
theorem dX2_init_57 : decode cX2_init 57 = .ok (.iconst 0, 1) := by decide +kernel
theorem dX2_init_58 : decode cX2_init 58 = .ok (.putfield 38, 3) := by decide +kernel
theorem dX2_init_61 : decode cX2_init 61 = .ok (.return_, 1) := by decide +kernel
theorem dX2_read_0 : decode cX2_read 0 = .ok (.aload_n 0, 1) := by decide +kernel
theorem dX2_read_1 : decode cX2_read 1 = .ok (.iconst 0, 1) := by decide +kernel
theorem dX2_read_2 : decode cX2_read 2 = .ok (.putfield 19, 3) := by decide +kernel
theorem dX2_read_5 : decode cX2_read 5 = .ok (.aload_n 0, 1) := by decide +kernel
theorem dX2_read_6 : decode cX2_read 6 = .ok (.invokevirtual 41, 3) := by decide +kernel
theorem dX2_read_9 : decode cX2_read 9 = .ok (.iconst 0, 1) := by decide +kernel
theorem dX2_read_10 : decode cX2_read 10 = .ok (.istore_n 1, 1) := by decide +kernel
theorem dX2_read_11 : decode cX2_read 11 = .ok (.iload_n 1, 1) := by decide +kernel
theorem dX2_read_12 : decode cX2_read 12 = .ok (.aload_n 0, 1) := by decide +kernel
theorem dX2_read_13 : decode cX2_read 13 = .ok (.getfield 15, 3) := by decide +kernel
theorem dX2_read_16 : decode cX2_read 16 = .ok (.if_icmp .ge 47, 3) := by decide +kernel
theorem dX2_read_19 : decode cX2_read 19 = .ok (.aload_n 0, 1) := by decide +kernel
theorem dX2_read_20 : decode cX2_read 20 = .ok (.getfield 31, 3) := by decide +kernel
theorem dX2_read_23 : decode cX2_read 23 = .ok (.ifCond .eq 16, 3) := by decide +kernel
theorem dX2_read_26 : decode cX2_read 26 = .ok (.aload_n 0, 1) := by decide +kernel
theorem dX2_read_27 : decode cX2_read 27 = .ok (.aload_n 0, 1) := by decide +kernel
theorem dX2_read_28 : decode cX2_read 28 = .ok (.getfield 9, 3) := by decide +kernel
theorem dX2_read_31 : decode cX2_read 31 = .ok (.iload_n 1, 1) := by decide +kernel
theorem dX2_read_32 : decode cX2_read 32 = .ok (.iaload, 1) := by decide +kernel
theorem dX2_read_33 : decode cX2_read 33 = .ok (.invokevirtual 44, 3) := by decide +kernel
theorem dX2_read_36 : decode cX2_read 36 = .ok (.goto 14, 3) := by decide +kernel
theorem dX2_read_39 : decode cX2_read 39 = .ok (.aload_n 0, 1) := by decide +kernel
theorem dX2_read_40 : decode cX2_read 40 = .ok (.iload_n 1, 1) := by decide +kernel
theorem dX2_read_41 : decode cX2_read 41 = .ok (.aload_n 0, 1) := by decide +kernel
theorem dX2_read_42 : decode cX2_read 42 = .ok (.getfield 9, 3) := by decide +kernel
theorem dX2_read_45 : decode cX2_read 45 = .ok (.iload_n 1, 1) := by decide +kernel
theorem dX2_read_46 : decode cX2_read 46 = .ok (.iaload, 1) := by decide +kernel
theorem dX2_read_47 : decode cX2_read 47 = .ok (.invokevirtual 48, 3) := by decide +kernel
theorem dX2_read_50 : decode cX2_read 50 = .ok (.istore_n 2, 1) := by decide +kernel
theorem dX2_read_51 : decode cX2_read 51 = .ok (.iload_n 2, 1) := by decide +kernel
theorem dX2_read_52 : decode cX2_read 52 = .ok (.ifCond .ne 5, 3) := by decide +kernel
theorem dX2_read_55 : decode cX2_read 55 = .ok (.iload_n 1, 1) := by decide +kernel
theorem dX2_read_56 : decode cX2_read 56 = .ok (.ireturn, 1) := by decide +kernel
theorem dX2_read_57 : decode cX2_read 57 = .ok (.iinc 1 1, 3) := by decide +kernel
theorem dX2_read_60 : decode cX2_read 60 = .ok (.goto (-49), 3) := by decide +kernel
theorem dX2_read_63 : decode cX2_read 63 = .ok (.aload_n 0, 1) := by decide +kernel
theorem dX2_read_64 : decode cX2_read 64 = .ok (.getfield 31, 3) := by decide +kernel
theorem dX2_read_67 : decode cX2_read 67 = .ok (.ifCond .eq 7, 3) := by decide +kernel
theorem dX2_read_70 : decode cX2_read 70 = .ok (.iconst (-1), 1) := by decide +kernel
theorem dX2_read_71 : decode cX2_read 71 = .ok (.goto 7, 3) := by decide +kernel
theorem dX2_read_74 : decode cX2_read 74 = .ok (.aload_n 0, 1) := by decide +kernel
theorem dX2_read_75 : decode cX2_read 75 = .ok (.getfield 15, 3) := by decide +kernel
theorem dX2_read_78 : decode cX2_read 78 = .ok (.ireturn, 1) := by decide +kernel
theorem dX2_awaitKey_0 : decode cX2_awaitKey 0 = .ok (.aload_n 0, 1) := by decide +kernel
theorem dX2_awaitKey_1 : decode cX2_awaitKey 1 = .ok (.iconst 0, 1) := by decide +kernel
theorem dX2_awaitKey_2 : decode cX2_awaitKey 2 = .ok (.putfield 31, 3) := by decide +kernel
theorem dX2_awaitKey_5 : decode cX2_awaitKey 5 = .ok (.aload_n 0, 1) := by decide +kernel
theorem dX2_awaitKey_6 : decode cX2_awaitKey 6 = .ok (.iconst 0, 1) := by decide +kernel
theorem dX2_awaitKey_7 : decode cX2_awaitKey 7 = .ok (.putfield 35, 3) := by decide +kernel
theorem dX2_awaitKey_10 : decode cX2_awaitKey 10 = .ok (.aload_n 0, 1) := by decide +kernel
theorem dX2_awaitKey_11 : decode cX2_awaitKey 11 = .ok (.iconst 0, 1) := by decide +kernel
theorem dX2_awaitKey_12 : decode cX2_awaitKey 12 = .ok (.putfield 38, 3) := by decide +kernel
theorem dX2_awaitKey_15 : decode cX2_awaitKey 15 = .ok (.return_, 1) := by decide +kernel
theorem dX2_readInKey_0 : decode cX2_readInKey 0 = .ok (.iload_n 2, 1) := by decide +kernel
theorem dX2_readInKey_1 : decode cX2_readInKey 1 = .ok (.bipush 61, 2) := by decide +kernel
theorem dX2_readInKey_3 : decode cX2_readInKey 3 = .ok (.if_icmp .ne 26, 3) := by decide +kernel
theorem dX2_readInKey_6 : decode cX2_readInKey 6 = .ok (.aload_n 0, 1) := by decide +kernel
theorem dX2_readInKey_7 : decode cX2_readInKey 7 = .ok (.getfield 35, 3) := by decide +kernel
theorem dX2_readInKey_10 : decode cX2_readInKey 10 = .ok (.ifCond .le 17, 3) := by decide +kernel
theorem dX2_readInKey_13 : decode cX2_readInKey 13 = .ok (.aload_n 0, 1) := by decide +kernel
theorem dX2_readInKey_14 : decode cX2_readInKey 14 = .ok (.iload_n 1, 1) := by decide +kernel
theorem dX2_readInKey_15 : decode cX2_readInKey 15 = .ok (.iconst 1, 1) := by decide +kernel
theorem dX2_readInKey_16 : decode cX2_readInKey 16 = .ok (.iadd, 1) := by decide +kernel
theorem dX2_readInKey_17 : decode cX2_readInKey 17 = .ok (.invokevirtual 52, 3) := by decide +kernel
theorem dX2_readInKey_20 : decode cX2_readInKey 20 = .ok (.ifCond .eq 7, 3) := by decide +kernel
theorem dX2_readInKey_23 : decode cX2_readInKey 23 = .ok (.iconst 1, 1) := by decide +kernel
theorem dX2_readInKey_24 : decode cX2_readInKey 24 = .ok (.goto 4, 3) := by decide +kernel
theorem dX2_readInKey_27 : decode cX2_readInKey 27 = .ok (.iconst 0, 1) := by decide +kernel
theorem dX2_readInKey_28 : decode cX2_readInKey 28 = .ok (.ireturn, 1) := by decide +kernel
theorem dX2_readInKey_29 : decode cX2_readInKey 29 = .ok (.aload_n 0, 1) := by decide +kernel
theorem dX2_readInKey_30 : decode cX2_readInKey 30 = .ok (.getfield 35, 3) := by decide +kernel
theorem dX2_readInKey_33 : decode cX2_readInKey 33 = .ok (.ifCond .le 14, 3) := by decide +kernel
theorem dX2_readInKey_36 : decode cX2_readInKey 36 = .ok (.aload_n 0, 1) := by decide +kernel
theorem dX2_readInKey_37 : decode cX2_readInKey 37 = .ok (.getfield 38, 3) := by decide +kernel
theorem dX2_readInKey_40 : decode cX2_readInKey 40 = .ok (.ifCond .ne 7, 3) := by decide +kernel
theorem dX2_readInKey_43 : decode cX2_readInKey 43 = .ok (.iconst 1, 1) := by decide +kernel
theorem dX2_readInKey_44 : decode cX2_readInKey 44 = .ok (.goto 4, 3) := by decide +kernel
theorem dX2_readInKey_47 : decode cX2_readInKey 47 = .ok (.iconst 0, 1) := by decide +kernel
theorem dX2_readInKey_48 : decode cX2_readInKey 48 = .ok (.istore_n 3, 1) := by decide +kernel
theorem dX2_readInKey_49 : decode cX2_readInKey 49 = .ok (.iload_n 2, 1) := by decide +kernel
theorem dX2_readInKey_50 : decode cX2_readInKey 50 = .ok (.bipush 48, 2) := by decide +kernel
theorem dX2_readInKey_52 : decode cX2_readInKey 52 = .ok (.if_icmp .lt 13, 3) := by decide +kernel
theorem dX2_readInKey_55 : decode cX2_readInKey 55 = .ok (.iload_n 2, 1) := by decide +kernel
theorem dX2_readInKey_56 : decode cX2_readInKey 56 = .ok (.bipush 57, 2) := by decide +kernel
theorem dX2_readInKey_58 : decode cX2_readInKey 58 = .ok (.if_icmp .gt 7, 3) := by decide +kernel
theorem dX2_readInKey_61 : decode cX2_readInKey 61 = .ok (.iload_n 3, 1) := by decide +kernel
theorem dX2_readInKey_62 : decode cX2_readInKey 62 = .ok (.ifCond .eq 5, 3) := by decide +kernel
theorem dX2_readInKey_65 : decode cX2_readInKey 65 = .ok (.iconst 0, 1) := by decide +kernel
theorem dX2_readInKey_66 : decode cX2_readInKey 66 = .ok (.ireturn, 1) := by decide +kernel
theorem dX2_readInKey_67 : decode cX2_readInKey 67 = .ok (.aload_n 0, 1) := by decide +kernel
theorem dX2_readInKey_68 : decode cX2_readInKey 68 = .ok (.aload_n 0, 1) := by decide +kernel
theorem dX2_readInKey_69 : decode cX2_readInKey 69 = .ok (.getfield 38, 3) := by decide +kernel
theorem dX2_readInKey_72 : decode cX2_readInKey 72 = .ok (.bipush 10, 2) := by decide +kernel
theorem dX2_readInKey_74 : decode cX2_readInKey 74 = .ok (.imul, 1) := by decide +kernel
theorem dX2_readInKey_75 : decode cX2_readInKey 75 = .ok (.iload_n 2, 1) := by decide +kernel
theorem dX2_readInKey_76 : decode cX2_readInKey 76 = .ok (.iadd, 1) := by decide +kernel
theorem dX2_readInKey_77 : decode cX2_readInKey 77 = .ok (.bipush 48, 2) := by decide +kernel
theorem dX2_readInKey_79 : decode cX2_readInKey 79 = .ok (.isub, 1) := by decide +kernel
theorem dX2_readInKey_80 : decode cX2_readInKey 80 = .ok (.putfield 38, 3) := by decide +kernel
theorem dX2_readInKey_83 : decode cX2_readInKey 83 = .ok (.aload_n 0, 1) := by decide +kernel
theorem dX2_readInKey_84 : decode cX2_readInKey 84 = .ok (.dup, 1) := by decide +kernel
theorem dX2_readInKey_85 : decode cX2_readInKey 85 = .ok (.getfield 35, 3) := by decide +kernel
theorem dX2_readInKey_88 : decode cX2_readInKey 88 = .ok (.iconst 1, 1) := by decide +kernel
theorem dX2_readInKey_89 : decode cX2_readInKey 89 = .ok (.iadd, 1) := by decide +kernel
theorem dX2_readInKey_90 : decode cX2_readInKey 90 = .ok (.putfield 35, 3) := by decide +kernel
theorem dX2_readInKey_93 : decode cX2_readInKey 93 = .ok (.aload_n 0, 1) := by decide +kernel
theorem dX2_readInKey_94 : decode cX2_readInKey 94 = .ok (.getfield 38, 3) := by decide +kernel
theorem dX2_readInKey_97 : decode cX2_readInKey 97 = .ok (.bipush 100, 2) := by decide +kernel
theorem dX2_readInKey_99 : decode cX2_readInKey 99 = .ok (.if_icmp .ge 7, 3) := by decide +kernel
theorem dX2_readInKey_102 : decode cX2_readInKey 102 = .ok (.iconst 1, 1) := by decide +kernel
theorem dX2_readInKey_103 : decode cX2_readInKey 103 = .ok (.goto 4, 3) := by decide +kernel
theorem dX2_readInKey_106 : decode cX2_readInKey 106 = .ok (.iconst 0, 1) := by decide +kernel
theorem dX2_readInKey_107 : decode cX2_readInKey 107 = .ok (.ireturn, 1) := by decide +kernel
theorem dX2_startText_0 : decode cX2_startText 0 = .ok (.aload_n 0, 1) := by decide +kernel
theorem dX2_startText_1 : decode cX2_startText 1 = .ok (.getfield 19, 3) := by decide +kernel
theorem dX2_startText_4 : decode cX2_startText 4 = .ok (.bipush 27, 2) := by decide +kernel
theorem dX2_startText_6 : decode cX2_startText 6 = .ok (.if_icmp .lt 5, 3) := by decide +kernel
theorem dX2_startText_9 : decode cX2_startText 9 = .ok (.iconst 0, 1) := by decide +kernel
theorem dX2_startText_10 : decode cX2_startText 10 = .ok (.ireturn, 1) := by decide +kernel
theorem dX2_startText_11 : decode cX2_startText 11 = .ok (.aload_n 0, 1) := by decide +kernel
theorem dX2_startText_12 : decode cX2_startText 12 = .ok (.getfield 22, 3) := by decide +kernel
theorem dX2_startText_15 : decode cX2_startText 15 = .ok (.aload_n 0, 1) := by decide +kernel
theorem dX2_startText_16 : decode cX2_startText 16 = .ok (.getfield 19, 3) := by decide +kernel
theorem dX2_startText_19 : decode cX2_startText 19 = .ok (.aload_n 0, 1) := by decide +kernel
theorem dX2_startText_20 : decode cX2_startText 20 = .ok (.getfield 38, 3) := by decide +kernel
theorem dX2_startText_23 : decode cX2_startText 23 = .ok (.iastore, 1) := by decide +kernel
theorem dX2_startText_24 : decode cX2_startText 24 = .ok (.aload_n 0, 1) := by decide +kernel
theorem dX2_startText_25 : decode cX2_startText 25 = .ok (.getfield 25, 3) := by decide +kernel
theorem dX2_startText_28 : decode cX2_startText 28 = .ok (.aload_n 0, 1) := by decide +kernel
theorem dX2_startText_29 : decode cX2_startText 29 = .ok (.getfield 19, 3) := by decide +kernel
theorem dX2_startText_32 : decode cX2_startText 32 = .ok (.iload_n 1, 1) := by decide +kernel
theorem dX2_startText_33 : decode cX2_startText 33 = .ok (.iastore, 1) := by decide +kernel
theorem dX2_startText_34 : decode cX2_startText 34 = .ok (.aload_n 0, 1) := by decide +kernel
theorem dX2_startText_35 : decode cX2_startText 35 = .ok (.getfield 28, 3) := by decide +kernel
theorem dX2_startText_38 : decode cX2_startText 38 = .ok (.aload_n 0, 1) := by decide +kernel
theorem dX2_startText_39 : decode cX2_startText 39 = .ok (.getfield 19, 3) := by decide +kernel
theorem dX2_startText_42 : decode cX2_startText 42 = .ok (.iconst 0, 1) := by decide +kernel
theorem dX2_startText_43 : decode cX2_startText 43 = .ok (.iastore, 1) := by decide +kernel
theorem dX2_startText_44 : decode cX2_startText 44 = .ok (.aload_n 0, 1) := by decide +kernel
theorem dX2_startText_45 : decode cX2_startText 45 = .ok (.dup, 1) := by decide +kernel
theorem dX2_startText_46 : decode cX2_startText 46 = .ok (.getfield 19, 3) := by decide +kernel
theorem dX2_startText_49 : decode cX2_startText 49 = .ok (.iconst 1, 1) := by decide +kernel
theorem dX2_startText_50 : decode cX2_startText 50 = .ok (.iadd, 1) := by decide +kernel
theorem dX2_startText_51 : decode cX2_startText 51 = .ok (.putfield 19, 3) := by decide +kernel
theorem dX2_startText_54 : decode cX2_startText 54 = .ok (.aload_n 0, 1) := by decide +kernel
theorem dX2_startText_55 : decode cX2_startText 55 = .ok (.iconst 1, 1) := by decide +kernel
theorem dX2_startText_56 : decode cX2_startText 56 = .ok (.putfield 31, 3) := by decide +kernel
theorem dX2_startText_59 : decode cX2_startText 59 = .ok (.iconst 1, 1) := by decide +kernel
theorem dX2_startText_60 : decode cX2_startText 60 = .ok (.ireturn, 1) := by decide +kernel
theorem dX2_readInText_0 : decode cX2_readInText 0 = .ok (.iload_n 1, 1) := by decide +kernel
theorem dX2_readInText_1 : decode cX2_readInText 1 = .ok (.bipush 59, 2) := by decide +kernel
theorem dX2_readInText_3 : decode cX2_readInText 3 = .ok (.if_icmp .ne 9, 3) := by decide +kernel
theorem dX2_readInText_6 : decode cX2_readInText 6 = .ok (.aload_n 0, 1) := by decide +kernel
theorem dX2_readInText_7 : decode cX2_readInText 7 = .ok (.invokevirtual 41, 3) := by decide +kernel
theorem dX2_readInText_10 : decode cX2_readInText 10 = .ok (.iconst 1, 1) := by decide +kernel
theorem dX2_readInText_11 : decode cX2_readInText 11 = .ok (.ireturn, 1) := by decide +kernel
theorem dX2_readInText_12 : decode cX2_readInText 12 = .ok (.aload_n 0, 1) := by decide +kernel
theorem dX2_readInText_13 : decode cX2_readInText 13 = .ok (.getfield 19, 3) := by decide +kernel
theorem dX2_readInText_16 : decode cX2_readInText 16 = .ok (.iconst 1, 1) := by decide +kernel
theorem dX2_readInText_17 : decode cX2_readInText 17 = .ok (.isub, 1) := by decide +kernel
theorem dX2_readInText_18 : decode cX2_readInText 18 = .ok (.istore_n 2, 1) := by decide +kernel
theorem dX2_readInText_19 : decode cX2_readInText 19 = .ok (.iload_n 1, 1) := by decide +kernel
theorem dX2_readInText_20 : decode cX2_readInText 20 = .ok (.bipush 97, 2) := by decide +kernel
theorem dX2_readInText_22 : decode cX2_readInText 22 = .ok (.if_icmp .lt 24, 3) := by decide +kernel
theorem dX2_readInText_25 : decode cX2_readInText 25 = .ok (.iload_n 1, 1) := by decide +kernel
theorem dX2_readInText_26 : decode cX2_readInText 26 = .ok (.bipush 122, 2) := by decide +kernel
theorem dX2_readInText_28 : decode cX2_readInText 28 = .ok (.if_icmp .gt 18, 3) := by decide +kernel
theorem dX2_readInText_31 : decode cX2_readInText 31 = .ok (.iload_n 2, 1) := by decide +kernel
theorem dX2_readInText_32 : decode cX2_readInText 32 = .ok (.ifCond .lt 14, 3) := by decide +kernel
theorem dX2_readInText_35 : decode cX2_readInText 35 = .ok (.aload_n 0, 1) := by decide +kernel
theorem dX2_readInText_36 : decode cX2_readInText 36 = .ok (.getfield 28, 3) := by decide +kernel
theorem dX2_readInText_39 : decode cX2_readInText 39 = .ok (.iload_n 2, 1) := by decide +kernel
theorem dX2_readInText_40 : decode cX2_readInText 40 = .ok (.iaload, 1) := by decide +kernel
theorem dX2_readInText_41 : decode cX2_readInText 41 = .ok (.bipush 40, 2) := by decide +kernel
theorem dX2_readInText_43 : decode cX2_readInText 43 = .ok (.if_icmp .lt 5, 3) := by decide +kernel
theorem dX2_readInText_46 : decode cX2_readInText 46 = .ok (.iconst 0, 1) := by decide +kernel
theorem dX2_readInText_47 : decode cX2_readInText 47 = .ok (.ireturn, 1) := by decide +kernel
theorem dX2_readInText_48 : decode cX2_readInText 48 = .ok (.aload_n 0, 1) := by decide +kernel
theorem dX2_readInText_49 : decode cX2_readInText 49 = .ok (.getfield 28, 3) := by decide +kernel
theorem dX2_readInText_52 : decode cX2_readInText 52 = .ok (.iload_n 2, 1) := by decide +kernel
theorem dX2_readInText_53 : decode cX2_readInText 53 = .ok (.dup2, 1) := by decide +kernel
theorem dX2_readInText_54 : decode cX2_readInText 54 = .ok (.iaload, 1) := by decide +kernel
theorem dX2_readInText_55 : decode cX2_readInText 55 = .ok (.iconst 1, 1) := by decide +kernel
theorem dX2_readInText_56 : decode cX2_readInText 56 = .ok (.iadd, 1) := by decide +kernel
theorem dX2_readInText_57 : decode cX2_readInText 57 = .ok (.iastore, 1) := by decide +kernel
theorem dX2_readInText_58 : decode cX2_readInText 58 = .ok (.iconst 1, 1) := by decide +kernel
theorem dX2_readInText_59 : decode cX2_readInText 59 = .ok (.ireturn, 1) := by decide +kernel
theorem dX3_init_0 : decode cX3_init 0 = .ok (.aload_n 0, 1) := by decide +kernel
theorem dX3_init_1 : decode cX3_init 1 = .ok (.invokespecial 3, 3) := by decide +kernel
theorem dX3_init_4 : decode cX3_init 4 = .ok (.aload_n 0, 1) := by decide +kernel
theorem dX3_init_5 : decode cX3_init 5 = .ok (.sipush 400, 3) := by decide +kernel
theorem dX3_init_8 : decode cX3_init 8 = .ok (.newarray .int, 2) := by decide +kernel
theorem dX3_init_10 : decode cX3_init 10 = .ok (.putfield 9, 3) := by decide +kernel
theorem dX3_init_13 : decode cX3_init 13 = .ok (.aload_n 0, 1) := by decide +kernel
theorem dX3_init_14 : decode cX3_init 14 = .ok (.sipush 400, 3) := by decide +kernel
theorem dX3_init_17 : decode cX3_init 17 = .ok (.newarray .int, 2) := by decide +kernel
theorem dX3_init_19 : decode cX3_init 19 = .ok (.putfield 15, 3) := by decide +kernel
theorem dX3_init_22 : decode cX3_init 22 = .ok (.aload_n 0, 1) := by decide +kernel
theorem dX3_init_23 : decode cX3_init 23 = .ok (.sipush 400, 3) := by decide +kernel
theorem dX3_init_26 : decode cX3_init 26 = .ok (.newarray .int, 2) := by decide +kernel
theorem dX3_init_28 : decode cX3_init 28 = .ok (.putfield 18, 3) := by decide +kernel
theorem dX3_init_31 : decode cX3_init 31 = .ok (.aload_n 0, 1) := by decide +kernel
theorem dX3_init_32 : decode cX3_init 32 = .ok (.bipush 10, 2) := by decide +kernel
theorem dX3_init_34 : decode cX3_init 34 = .ok (.newarray .int, 2) := by decide +kernel
theorem dX3_init_36 : decode cX3_init 36 = .ok (.putfield 21, 3) := by decide +kernel
theorem dX3_init_39 : decode cX3_init 39 = .ok (.aload_n 0, 1) := by decide +kernel
theorem dX3_init_40 : decode cX3_init 40 = .ok (.getfield 21, 3) := by decide +kernel
theorem dX3_init_43 : decode cX3_init 43 = .ok (.bipush 40, 2) := by decide +kernel
theorem dX3_init_45 : decode cX3_init 45 = .ok (.invokestatic 24, 3) := by decide +kernel
theorem dX3_init_48 : decode cX3_init 48 = .ok (.return_, 1) := by decide +kernel
theorem dX3_copyFrom_0 : decode cX3_copyFrom 0 = .ok (.aload_n 1, 1) := by decide +kernel
theorem dX3_copyFrom_1 : decode cX3_copyFrom 1 = .ok (.getfield 9, 3) := by decide +kernel
theorem dX3_copyFrom_4 : decode cX3_copyFrom 4 = .ok (.iconst 0, 1) := by decide +kernel
theorem dX3_copyFrom_5 : decode cX3_copyFrom 5 = .ok (.aload_n 0, 1) := by decide +kernel
theorem dX3_copyFrom_6 : decode cX3_copyFrom 6 = .ok (.getfield 9, 3) := by decide +kernel
theorem dX3_copyFrom_9 : decode cX3_copyFrom 9 = .ok (.iconst 0, 1) := by decide +kernel
theorem dX3_copyFrom_10 : decode cX3_copyFrom 10 = .ok (.sipush 400, 3) := by decide +kernel
theorem dX3_copyFrom_13 : decode cX3_copyFrom 13 = .ok (.invokestatic 30, 3) := by decide +kernel
theorem dX3_copyFrom_16 : decode cX3_copyFrom 16 = .ok (.aload_n 1, 1) := by decide +kernel
theorem dX3_copyFrom_17 : decode cX3_copyFrom 17 = .ok (.getfield 15, 3) := by decide +kernel
theorem dX3_copyFrom_20 : decode cX3_copyFrom 20 = .ok (.iconst 0, 1) := by decide +kernel
theorem dX3_copyFrom_21 : decode cX3_copyFrom 21 = .ok (.aload_n 0, 1) := by decide +kernel
theorem dX3_copyFrom_22 : decode cX3_copyFrom 22 = .ok (.getfield 15, 3) := by decide +kernel
theorem dX3_copyFrom_25 : decode cX3_copyFrom 25 = .ok (.iconst 0, 1) := by decide +kernel
theorem dX3_copyFrom_26 : decode cX3_copyFrom 26 = .ok (.sipush 400, 3) := by decide +kernel
theorem dX3_copyFrom_29 : decode cX3_copyFrom 29 = .ok (.invokestatic 30, 3) := by decide +kernel
theorem dX3_copyFrom_32 : decode cX3_copyFrom 32 = .ok (.aload_n 1, 1) := by decide +kernel
theorem dX3_copyFrom_33 : decode cX3_copyFrom 33 = .ok (.getfield 18, 3) := by decide +kernel
theorem dX3_copyFrom_36 : decode cX3_copyFrom 36 = .ok (.iconst 0, 1) := by decide +kernel
theorem dX3_copyFrom_37 : decode cX3_copyFrom 37 = .ok (.aload_n 0, 1) := by decide +kernel
theorem dX3_copyFrom_38 : decode cX3_copyFrom 38 = .ok (.getfield 18, 3) := by decide +kernel
theorem dX3_copyFrom_41 : decode cX3_copyFrom 41 = .ok (.iconst 0, 1) := by decide +kernel
theorem dX3_copyFrom_42 : decode cX3_copyFrom 42 = .ok (.sipush 400, 3) := by decide +kernel
theorem dX3_copyFrom_45 : decode cX3_copyFrom 45 = .ok (.invokestatic 30, 3) := by decide +kernel
theorem dX3_copyFrom_48 : decode cX3_copyFrom 48 = .ok (.aload_n 1, 1) := by decide +kernel
theorem dX3_copyFrom_49 : decode cX3_copyFrom 49 = .ok (.getfield 21, 3) := by decide +kernel
theorem dX3_copyFrom_52 : decode cX3_copyFrom 52 = .ok (.iconst 0, 1) := by decide +kernel
theorem dX3_copyFrom_53 : decode cX3_copyFrom 53 = .ok (.aload_n 0, 1) := by decide +kernel
theorem dX3_copyFrom_54 : decode cX3_copyFrom 54 = .ok (.getfield 21, 3) := by decide +kernel
theorem dX3_copyFrom_57 : decode cX3_copyFrom 57 = .ok (.iconst 0, 1) := by decide +kernel
theorem dX3_copyFrom_58 : decode cX3_copyFrom 58 = .ok (.bipush 10, 2) := by decide +kernel
theorem dX3_copyFrom_60 : decode cX3_copyFrom 60 = .ok (.invokestatic 30, 3) := by decide +kernel
theorem dX3_copyFrom_63 : decode cX3_copyFrom 63 = .ok (.return_, 1) := by decide +kernel
theorem dX3_clear_0 : decode cX3_clear 0 = .ok (.aload_n 0, 1) := by decide +kernel
theorem dX3_clear_1 : decode cX3_clear 1 = .ok (.getfield 9, 3) := by decide +kernel
theorem dX3_clear_4 : decode cX3_clear 4 = .ok (.iconst 0, 1) := by decide +kernel
theorem dX3_clear_5 : decode cX3_clear 5 = .ok (.invokestatic 24, 3) := by decide +kernel
theorem dX3_clear_8 : decode cX3_clear 8 = .ok (.aload_n 0, 1) := by decide +kernel
theorem dX3_clear_9 : decode cX3_clear 9 = .ok (.getfield 18, 3) := by decide +kernel
theorem dX3_clear_12 : decode cX3_clear 12 = .ok (.iconst 0, 1) := by decide +kernel
theorem dX3_clear_13 : decode cX3_clear 13 = .ok (.invokestatic 24, 3) := by decide +kernel
theorem dX3_clear_16 : decode cX3_clear 16 = .ok (.aload_n 0, 1) := by decide +kernel
theorem dX3_clear_17 : decode cX3_clear 17 = .ok (.getfield 21, 3) := by decide +kernel
theorem dX3_clear_20 : decode cX3_clear 20 = .ok (.bipush 40, 2) := by decide +kernel
theorem dX3_clear_22 : decode cX3_clear 22 = .ok (.invokestatic 24, 3) := by decide +kernel
theorem dX3_clear_25 : decode cX3_clear 25 = .ok (.return_, 1) := by decide +kernel
theorem dX3_hasRoom_0 : decode cX3_hasRoom 0 = .ok (.aload_n 0, 1) := by decide +kernel
theorem dX3_hasRoom_1 : decode cX3_hasRoom 1 = .ok (.getfield 21, 3) := by decide +kernel
theorem dX3_hasRoom_4 : decode cX3_hasRoom 4 = .ok (.iload_n 1, 1) := by decide +kernel
theorem dX3_hasRoom_5 : decode cX3_hasRoom 5 = .ok (.iaload, 1) := by decide +kernel
theorem dX3_hasRoom_6 : decode cX3_hasRoom 6 = .ok (.iload_n 2, 1) := by decide +kernel
theorem dX3_hasRoom_7 : decode cX3_hasRoom 7 = .ok (.if_icmp .lt 7, 3) := by decide +kernel
theorem dX3_hasRoom_10 : decode cX3_hasRoom 10 = .ok (.iconst 1, 1) := by decide +kernel
theorem dX3_hasRoom_11 : decode cX3_hasRoom 11 = .ok (.goto 4, 3) := by decide +kernel
theorem dX3_hasRoom_14 : decode cX3_hasRoom 14 = .ok (.iconst 0, 1) := by decide +kernel
theorem dX3_hasRoom_15 : decode cX3_hasRoom 15 = .ok (.ireturn, 1) := by decide +kernel
theorem dX3_occupy_0 : decode cX3_occupy 0 = .ok (.aload_n 0, 1) := by decide +kernel
theorem dX3_occupy_1 : decode cX3_occupy 1 = .ok (.getfield 9, 3) := by decide +kernel
theorem dX3_occupy_4 : decode cX3_occupy 4 = .ok (.iload_n 1, 1) := by decide +kernel
theorem dX3_occupy_5 : decode cX3_occupy 5 = .ok (.iload_n 2, 1) := by decide +kernel
theorem dX3_occupy_6 : decode cX3_occupy 6 = .ok (.iastore, 1) := by decide +kernel
theorem dX3_occupy_7 : decode cX3_occupy 7 = .ok (.aload_n 0, 1) := by decide +kernel
theorem dX3_occupy_8 : decode cX3_occupy 8 = .ok (.getfield 15, 3) := by decide +kernel
theorem dX3_occupy_11 : decode cX3_occupy 11 = .ok (.iload_n 1, 1) := by decide +kernel
theorem dX3_occupy_12 : decode cX3_occupy 12 = .ok (.iload_n 3, 1) := by decide +kernel
theorem dX3_occupy_13 : decode cX3_occupy 13 = .ok (.iastore, 1) := by decide +kernel
theorem dX3_occupy_14 : decode cX3_occupy 14 = .ok (.aload_n 0, 1) := by decide +kernel
theorem dX3_occupy_15 : decode cX3_occupy 15 = .ok (.getfield 18, 3) := by decide +kernel
theorem dX3_occupy_18 : decode cX3_occupy 18 = .ok (.iload_n 1, 1) := by decide +kernel
theorem dX3_occupy_19 : decode cX3_occupy 19 = .ok (.iload 4, 2) := by decide +kernel
theorem dX3_occupy_21 : decode cX3_occupy 21 = .ok (.iastore, 1) := by decide +kernel
theorem dX3_occupy_22 : decode cX3_occupy 22 = .ok (.aload_n 0, 1) := by decide +kernel
theorem dX3_occupy_23 : decode cX3_occupy 23 = .ok (.getfield 21, 3) := by decide +kernel
theorem dX3_occupy_26 : decode cX3_occupy 26 = .ok (.iload_n 1, 1) := by decide +kernel
theorem dX3_occupy_27 : decode cX3_occupy 27 = .ok (.bipush 40, 2) := by decide +kernel
theorem dX3_occupy_29 : decode cX3_occupy 29 = .ok (.idiv, 1) := by decide +kernel
theorem dX3_occupy_30 : decode cX3_occupy 30 = .ok (.dup2, 1) := by decide +kernel
theorem dX3_occupy_31 : decode cX3_occupy 31 = .ok (.iaload, 1) := by decide +kernel
theorem dX3_occupy_32 : decode cX3_occupy 32 = .ok (.iload 4, 2) := by decide +kernel
theorem dX3_occupy_34 : decode cX3_occupy 34 = .ok (.isub, 1) := by decide +kernel
theorem dX3_occupy_35 : decode cX3_occupy 35 = .ok (.iastore, 1) := by decide +kernel
theorem dX3_occupy_36 : decode cX3_occupy 36 = .ok (.return_, 1) := by decide +kernel
theorem dX3_vacate_0 : decode cX3_vacate 0 = .ok (.aload_n 0, 1) := by decide +kernel
theorem dX3_vacate_1 : decode cX3_vacate 1 = .ok (.getfield 21, 3) := by decide +kernel
theorem dX3_vacate_4 : decode cX3_vacate 4 = .ok (.iload_n 1, 1) := by decide +kernel
theorem dX3_vacate_5 : decode cX3_vacate 5 = .ok (.bipush 40, 2) := by decide +kernel
theorem dX3_vacate_7 : decode cX3_vacate 7 = .ok (.idiv, 1) := by decide +kernel
theorem dX3_vacate_8 : decode cX3_vacate 8 = .ok (.dup2, 1) := by decide +kernel
theorem dX3_vacate_9 : decode cX3_vacate 9 = .ok (.iaload, 1) := by decide +kernel
theorem dX3_vacate_10 : decode cX3_vacate 10 = .ok (.aload_n 0, 1) := by decide +kernel
theorem dX3_vacate_11 : decode cX3_vacate 11 = .ok (.getfield 18, 3) := by decide +kernel
theorem dX3_vacate_14 : decode cX3_vacate 14 = .ok (.iload_n 1, 1) := by decide +kernel
theorem dX3_vacate_15 : decode cX3_vacate 15 = .ok (.iaload, 1) := by decide +kernel
theorem dX3_vacate_16 : decode cX3_vacate 16 = .ok (.iadd, 1) := by decide +kernel
theorem dX3_vacate_17 : decode cX3_vacate 17 = .ok (.iastore, 1) := by decide +kernel
theorem dX3_vacate_18 : decode cX3_vacate 18 = .ok (.aload_n 0, 1) := by decide +kernel
theorem dX3_vacate_19 : decode cX3_vacate 19 = .ok (.getfield 9, 3) := by decide +kernel
theorem dX3_vacate_22 : decode cX3_vacate 22 = .ok (.iload_n 1, 1) := by decide +kernel
theorem dX3_vacate_23 : decode cX3_vacate 23 = .ok (.iconst 0, 1) := by decide +kernel
theorem dX3_vacate_24 : decode cX3_vacate 24 = .ok (.iastore, 1) := by decide +kernel
theorem dX3_vacate_25 : decode cX3_vacate 25 = .ok (.aload_n 0, 1) := by decide +kernel
theorem dX3_vacate_26 : decode cX3_vacate 26 = .ok (.getfield 18, 3) := by decide +kernel
theorem dX3_vacate_29 : decode cX3_vacate 29 = .ok (.iload_n 1, 1) := by decide +kernel
theorem dX3_vacate_30 : decode cX3_vacate 30 = .ok (.iconst 0, 1) := by decide +kernel
theorem dX3_vacate_31 : decode cX3_vacate 31 = .ok (.iastore, 1) := by decide +kernel
theorem dX3_vacate_32 : decode cX3_vacate 32 = .ok (.return_, 1) := by decide +kernel
theorem dX3_place_0 : decode cX3_place 0 = .ok (.iconst 0, 1) := by decide +kernel
theorem dX3_place_1 : decode cX3_place 1 = .ok (.istore 4, 2) := by decide +kernel
theorem dX3_place_3 : decode cX3_place 3 = .ok (.iload 4, 2) := by decide +kernel
theorem dX3_place_5 : decode cX3_place 5 = .ok (.bipush 10, 2) := by decide +kernel
theorem dX3_place_7 : decode cX3_place 7 = .ok (.if_icmp .ge 45, 3) := by decide +kernel
theorem dX3_place_10 : decode cX3_place 10 = .ok (.aload_n 0, 1) := by decide +kernel
theorem dX3_place_11 : decode cX3_place 11 = .ok (.iload 4, 2) := by decide +kernel
theorem dX3_place_13 : decode cX3_place 13 = .ok (.iload_n 3, 1) := by decide +kernel
theorem dX3_place_14 : decode cX3_place 14 = .ok (.invokevirtual 36, 3) := by decide +kernel
theorem dX3_place_17 : decode cX3_place 17 = .ok (.ifCond .eq 29, 3) := by decide +kernel
theorem dX3_place_20 : decode cX3_place 20 = .ok (.aload_n 0, 1) := by decide +kernel
theorem dX3_place_21 : decode cX3_place 21 = .ok (.iload 4, 2) := by decide +kernel
theorem dX3_place_23 : decode cX3_place 23 = .ok (.invokevirtual 40, 3) := by decide +kernel
theorem dX3_place_26 : decode cX3_place 26 = .ok (.istore 5, 2) := by decide +kernel
theorem dX3_place_28 : decode cX3_place 28 = .ok (.iload 5, 2) := by decide +kernel
theorem dX3_place_30 : decode cX3_place 30 = .ok (.iconst (-1), 1) := by decide +kernel
theorem dX3_place_31 : decode cX3_place 31 = .ok (.if_icmp .eq 12, 3) := by decide +kernel
theorem dX3_place_34 : decode cX3_place 34 = .ok (.aload_n 0, 1) := by decide +kernel
theorem dX3_place_35 : decode cX3_place 35 = .ok (.iload 5, 2) := by decide +kernel
theorem dX3_place_37 : decode cX3_place 37 = .ok (.iload_n 1, 1) := by decide +kernel
theorem dX3_place_38 : decode cX3_place 38 = .ok (.iload_n 2, 1) := by decide +kernel
theorem dX3_place_39 : decode cX3_place 39 = .ok (.iload_n 3, 1) := by decide +kernel
theorem dX3_place_40 : decode cX3_place 40 = .ok (.invokevirtual 44, 3) := by decide +kernel
theorem dX3_place_43 : decode cX3_place 43 = .ok (.iload 5, 2) := by decide +kernel
theorem dX3_place_45 : decode cX3_place 45 = .ok (.ireturn, 1) := by decide +kernel
theorem dX3_place_46 : decode cX3_place 46 = .ok (.iinc 4 1, 3) := by decide +kernel
theorem dX3_place_49 : decode cX3_place 49 = .ok (.goto (-46), 3) := by decide +kernel
theorem dX3_place_52 : decode cX3_place 52 = .ok (.iconst (-1), 1) := by decide +kernel
theorem dX3_place_53 : decode cX3_place 53 = .ok (.ireturn, 1) := by decide +kernel
theorem dX3_lowestGap_0 : decode cX3_lowestGap 0 = .ok (.iconst 0, 1) := by decide +kernel
theorem dX3_lowestGap_1 : decode cX3_lowestGap 1 = .ok (.istore_n 2, 1) := by decide +kernel
theorem dX3_lowestGap_2 : decode cX3_lowestGap 2 = .ok (.iload_n 2, 1) := by decide +kernel
theorem dX3_lowestGap_3 : decode cX3_lowestGap 3 = .ok (.bipush 40, 2) := by decide +kernel
theorem dX3_lowestGap_5 : decode cX3_lowestGap 5 = .ok (.if_icmp .ge 27, 3) := by decide +kernel
theorem dX3_lowestGap_8 : decode cX3_lowestGap 8 = .ok (.iload_n 1, 1) := by decide +kernel
theorem dX3_lowestGap_9 : decode cX3_lowestGap 9 = .ok (.bipush 40, 2) := by decide +kernel
theorem dX3_lowestGap_11 : decode cX3_lowestGap 11 = .ok (.imul, 1) := by decide +kernel
theorem dX3_lowestGap_12 : decode cX3_lowestGap 12 = .ok (.iload_n 2, 1) := by decide +kernel
theorem dX3_lowestGap_13 : decode cX3_lowestGap 13 = .ok (.iadd, 1) := by decide +kernel
theorem dX3_lowestGap_14 : decode cX3_lowestGap 14 = .ok (.istore_n 3, 1) := by decide +kernel
theorem dX3_lowestGap_15 : decode cX3_lowestGap 15 = .ok (.aload_n 0, 1) := by decide +kernel
theorem dX3_lowestGap_16 : decode cX3_lowestGap 16 = .ok (.getfield 9, 3) := by decide +kernel
theorem dX3_lowestGap_19 : decode cX3_lowestGap 19 = .ok (.iload_n 3, 1) := by decide +kernel
theorem dX3_lowestGap_20 : decode cX3_lowestGap 20 = .ok (.iaload, 1) := by decide +kernel
theorem dX3_lowestGap_21 : decode cX3_lowestGap 21 = .ok (.ifCond .ne 5, 3) := by decide +kernel
theorem dX3_lowestGap_24 : decode cX3_lowestGap 24 = .ok (.iload_n 3, 1) := by decide +kernel
theorem dX3_lowestGap_25 : decode cX3_lowestGap 25 = .ok (.ireturn, 1) := by decide +kernel
theorem dX3_lowestGap_26 : decode cX3_lowestGap 26 = .ok (.iinc 2 1, 3) := by decide +kernel
theorem dX3_lowestGap_29 : decode cX3_lowestGap 29 = .ok (.goto (-27), 3) := by decide +kernel
theorem dX3_lowestGap_32 : decode cX3_lowestGap 32 = .ok (.iconst (-1), 1) := by decide +kernel
theorem dX3_lowestGap_33 : decode cX3_lowestGap 33 = .ok (.ireturn, 1) := by decide +kernel
theorem dX3_slotsOf_0 : decode cX3_slotsOf 0 = .ok (.bipush 39, 2) := by decide +kernel
theorem dX3_slotsOf_2 : decode cX3_slotsOf 2 = .ok (.istore_n 2, 1) := by decide +kernel
theorem dX3_slotsOf_3 : decode cX3_slotsOf 3 = .ok (.iload_n 2, 1) := by decide +kernel
theorem dX3_slotsOf_4 : decode cX3_slotsOf 4 = .ok (.ifCond .lt 27, 3) := by decide +kernel
theorem dX3_slotsOf_7 : decode cX3_slotsOf 7 = .ok (.aload_n 0, 1) := by decide +kernel
theorem dX3_slotsOf_8 : decode cX3_slotsOf 8 = .ok (.getfield 9, 3) := by decide +kernel
theorem dX3_slotsOf_11 : decode cX3_slotsOf 11 = .ok (.iload_n 1, 1) := by decide +kernel
theorem dX3_slotsOf_12 : decode cX3_slotsOf 12 = .ok (.bipush 40, 2) := by decide +kernel
theorem dX3_slotsOf_14 : decode cX3_slotsOf 14 = .ok (.imul, 1) := by decide +kernel
theorem dX3_slotsOf_15 : decode cX3_slotsOf 15 = .ok (.iload_n 2, 1) := by decide +kernel
theorem dX3_slotsOf_16 : decode cX3_slotsOf 16 = .ok (.iadd, 1) := by decide +kernel
theorem dX3_slotsOf_17 : decode cX3_slotsOf 17 = .ok (.iaload, 1) := by decide +kernel
theorem dX3_slotsOf_18 : decode cX3_slotsOf 18 = .ok (.ifCond .eq 7, 3) := by decide +kernel
theorem dX3_slotsOf_21 : decode cX3_slotsOf 21 = .ok (.iload_n 2, 1) := by decide +kernel
theorem dX3_slotsOf_22 : decode cX3_slotsOf 22 = .ok (.iconst 1, 1) := by decide +kernel
theorem dX3_slotsOf_23 : decode cX3_slotsOf 23 = .ok (.iadd, 1) := by decide +kernel
theorem dX3_slotsOf_24 : decode cX3_slotsOf 24 = .ok (.ireturn, 1) := by decide +kernel
theorem dX3_slotsOf_25 : decode cX3_slotsOf 25 = .ok (.iinc 2 (-1), 3) := by decide +kernel
theorem dX3_slotsOf_28 : decode cX3_slotsOf 28 = .ok (.goto (-25), 3) := by decide +kernel
theorem dX3_slotsOf_31 : decode cX3_slotsOf 31 = .ok (.iconst 0, 1) := by decide +kernel
theorem dX3_slotsOf_32 : decode cX3_slotsOf 32 = .ok (.ireturn, 1) := by decide +kernel
theorem dX3_thingsOn_0 : decode cX3_thingsOn 0 = .ok (.aload_n 0, 1) := by decide +kernel
theorem dX3_thingsOn_1 : decode cX3_thingsOn 1 = .ok (.iload_n 1, 1) := by decide +kernel
theorem dX3_thingsOn_2 : decode cX3_thingsOn 2 = .ok (.invokevirtual 48, 3) := by decide +kernel
theorem dX3_thingsOn_5 : decode cX3_thingsOn 5 = .ok (.istore_n 3, 1) := by decide +kernel
theorem dX3_thingsOn_6 : decode cX3_thingsOn 6 = .ok (.iconst 0, 1) := by decide +kernel
theorem dX3_thingsOn_7 : decode cX3_thingsOn 7 = .ok (.istore 4, 2) := by decide +kernel
theorem dX3_thingsOn_9 : decode cX3_thingsOn 9 = .ok (.iconst 0, 1) := by decide +kernel
theorem dX3_thingsOn_10 : decode cX3_thingsOn 10 = .ok (.istore 5, 2) := by decide +kernel
theorem dX3_thingsOn_12 : decode cX3_thingsOn 12 = .ok (.iload 5, 2) := by decide +kernel
theorem dX3_thingsOn_14 : decode cX3_thingsOn 14 = .ok (.iload_n 3, 1) := by decide +kernel
theorem dX3_thingsOn_15 : decode cX3_thingsOn 15 = .ok (.if_icmp .ge 28, 3) := by decide +kernel
theorem dX3_thingsOn_18 : decode cX3_thingsOn 18 = .ok (.aload_n 0, 1) := by decide +kernel
theorem dX3_thingsOn_19 : decode cX3_thingsOn 19 = .ok (.getfield 9, 3) := by decide +kernel
theorem dX3_thingsOn_22 : decode cX3_thingsOn 22 = .ok (.iload_n 1, 1) := by decide +kernel
theorem dX3_thingsOn_23 : decode cX3_thingsOn 23 = .ok (.bipush 40, 2) := by decide +kernel
theorem dX3_thingsOn_25 : decode cX3_thingsOn 25 = .ok (.imul, 1) := by decide +kernel
theorem dX3_thingsOn_26 : decode cX3_thingsOn 26 = .ok (.iload 5, 2) := by decide +kernel
theorem dX3_thingsOn_28 : decode cX3_thingsOn 28 = .ok (.iadd, 1) := by decide +kernel
theorem dX3_thingsOn_29 : decode cX3_thingsOn 29 = .ok (.iaload, 1) := by decide +kernel
theorem dX3_thingsOn_30 : decode cX3_thingsOn 30 = .ok (.iload_n 2, 1) := by decide +kernel
theorem dX3_thingsOn_31 : decode cX3_thingsOn 31 = .ok (.if_icmp .ne 6, 3) := by decide +kernel
theorem dX3_thingsOn_34 : decode cX3_thingsOn 34 = .ok (.iinc 4 1, 3) := by decide +kernel
theorem dX3_thingsOn_37 : decode cX3_thingsOn 37 = .ok (.iinc 5 1, 3) := by decide +kernel
theorem dX3_thingsOn_40 : decode cX3_thingsOn 40 = .ok (.goto (-28), 3) := by decide +kernel
theorem dX3_thingsOn_43 : decode cX3_thingsOn 43 = .ok (.iload 4, 2) := by decide +kernel
theorem dX3_thingsOn_45 : decode cX3_thingsOn 45 = .ok (.ireturn, 1) := by decide +kernel
theorem dX3_thingsInAll_0 : decode cX3_thingsInAll 0 = .ok (.iconst 0, 1) := by decide +kernel
theorem dX3_thingsInAll_1 : decode cX3_thingsInAll 1 = .ok (.istore_n 2, 1) := by decide +kernel
theorem dX3_thingsInAll_2 : decode cX3_thingsInAll 2 = .ok (.iconst 0, 1) := by decide +kernel
theorem dX3_thingsInAll_3 : decode cX3_thingsInAll 3 = .ok (.istore_n 3, 1) := by decide +kernel
theorem dX3_thingsInAll_4 : decode cX3_thingsInAll 4 = .ok (.iload_n 3, 1) := by decide +kernel
theorem dX3_thingsInAll_5 : decode cX3_thingsInAll 5 = .ok (.bipush 10, 2) := by decide +kernel
theorem dX3_thingsInAll_7 : decode cX3_thingsInAll 7 = .ok (.if_icmp .ge 18, 3) := by decide +kernel
theorem dX3_thingsInAll_10 : decode cX3_thingsInAll 10 = .ok (.iload_n 2, 1) := by decide +kernel
theorem dX3_thingsInAll_11 : decode cX3_thingsInAll 11 = .ok (.aload_n 0, 1) := by decide +kernel
theorem dX3_thingsInAll_12 : decode cX3_thingsInAll 12 = .ok (.iload_n 3, 1) := by decide +kernel
theorem dX3_thingsInAll_13 : decode cX3_thingsInAll 13 = .ok (.iload_n 1, 1) := by decide +kernel
theorem dX3_thingsInAll_14 : decode cX3_thingsInAll 14 = .ok (.invokevirtual 51, 3) := by decide +kernel
theorem dX3_thingsInAll_17 : decode cX3_thingsInAll 17 = .ok (.iadd, 1) := by decide +kernel
theorem dX3_thingsInAll_18 : decode cX3_thingsInAll 18 = .ok (.istore_n 2, 1) := by decide +kernel
theorem dX3_thingsInAll_19 : decode cX3_thingsInAll 19 = .ok (.iinc 3 1, 3) := by decide +kernel
theorem dX3_thingsInAll_22 : decode cX3_thingsInAll 22 = .ok (.goto (-18), 3) := by decide +kernel
theorem dX3_thingsInAll_25 : decode cX3_thingsInAll 25 = .ok (.iload_n 2, 1) := by decide +kernel
theorem dX3_thingsInAll_26 : decode cX3_thingsInAll 26 = .ok (.ireturn, 1) := by decide +kernel
theorem dX3_pagesInUse_0 : decode cX3_pagesInUse 0 = .ok (.iconst 0, 1) := by decide +kernel
theorem dX3_pagesInUse_1 : decode cX3_pagesInUse 1 = .ok (.istore_n 1, 1) := by decide +kernel
theorem dX3_pagesInUse_2 : decode cX3_pagesInUse 2 = .ok (.iconst 0, 1) := by decide +kernel
theorem dX3_pagesInUse_3 : decode cX3_pagesInUse 3 = .ok (.istore_n 2, 1) := by decide +kernel
theorem dX3_pagesInUse_4 : decode cX3_pagesInUse 4 = .ok (.iload_n 2, 1) := by decide +kernel
theorem dX3_pagesInUse_5 : decode cX3_pagesInUse 5 = .ok (.bipush 10, 2) := by decide +kernel
theorem dX3_pagesInUse_7 : decode cX3_pagesInUse 7 = .ok (.if_icmp .ge 23, 3) := by decide +kernel
theorem dX3_pagesInUse_10 : decode cX3_pagesInUse 10 = .ok (.aload_n 0, 1) := by decide +kernel
theorem dX3_pagesInUse_11 : decode cX3_pagesInUse 11 = .ok (.getfield 21, 3) := by decide +kernel
theorem dX3_pagesInUse_14 : decode cX3_pagesInUse 14 = .ok (.iload_n 2, 1) := by decide +kernel
theorem dX3_pagesInUse_15 : decode cX3_pagesInUse 15 = .ok (.iaload, 1) := by decide +kernel
theorem dX3_pagesInUse_16 : decode cX3_pagesInUse 16 = .ok (.bipush 40, 2) := by decide +kernel
theorem dX3_pagesInUse_18 : decode cX3_pagesInUse 18 = .ok (.if_icmp .ge 6, 3) := by decide +kernel
theorem dX3_pagesInUse_21 : decode cX3_pagesInUse 21 = .ok (.iinc 1 1, 3) := by decide +kernel
theorem dX3_pagesInUse_24 : decode cX3_pagesInUse 24 = .ok (.iinc 2 1, 3) := by decide +kernel
theorem dX3_pagesInUse_27 : decode cX3_pagesInUse 27 = .ok (.goto (-23), 3) := by decide +kernel
theorem dX3_pagesInUse_30 : decode cX3_pagesInUse 30 = .ok (.iload_n 1, 1) := by decide +kernel
theorem dX3_pagesInUse_31 : decode cX3_pagesInUse 31 = .ok (.ireturn, 1) := by decide +kernel
theorem dX3_freeInAll_0 : decode cX3_freeInAll 0 = .ok (.iconst 0, 1) := by decide +kernel
theorem dX3_freeInAll_1 : decode cX3_freeInAll 1 = .ok (.istore_n 1, 1) := by decide +kernel
theorem dX3_freeInAll_2 : decode cX3_freeInAll 2 = .ok (.iconst 0, 1) := by decide +kernel
theorem dX3_freeInAll_3 : decode cX3_freeInAll 3 = .ok (.istore_n 2, 1) := by decide +kernel
theorem dX3_freeInAll_4 : decode cX3_freeInAll 4 = .ok (.iload_n 2, 1) := by decide +kernel
theorem dX3_freeInAll_5 : decode cX3_freeInAll 5 = .ok (.bipush 10, 2) := by decide +kernel
theorem dX3_freeInAll_7 : decode cX3_freeInAll 7 = .ok (.if_icmp .ge 18, 3) := by decide +kernel
theorem dX3_freeInAll_10 : decode cX3_freeInAll 10 = .ok (.iload_n 1, 1) := by decide +kernel
theorem dX3_freeInAll_11 : decode cX3_freeInAll 11 = .ok (.aload_n 0, 1) := by decide +kernel
theorem dX3_freeInAll_12 : decode cX3_freeInAll 12 = .ok (.getfield 21, 3) := by decide +kernel
theorem dX3_freeInAll_15 : decode cX3_freeInAll 15 = .ok (.iload_n 2, 1) := by decide +kernel
theorem dX3_freeInAll_16 : decode cX3_freeInAll 16 = .ok (.iaload, 1) := by decide +kernel
theorem dX3_freeInAll_17 : decode cX3_freeInAll 17 = .ok (.iadd, 1) := by decide +kernel
theorem dX3_freeInAll_18 : decode cX3_freeInAll 18 = .ok (.istore_n 1, 1) := by decide +kernel
theorem dX3_freeInAll_19 : decode cX3_freeInAll 19 = .ok (.iinc 2 1, 3) := by decide +kernel
theorem dX3_freeInAll_22 : decode cX3_freeInAll 22 = .ok (.goto (-18), 3) := by decide +kernel
theorem dX3_freeInAll_25 : decode cX3_freeInAll 25 = .ok (.iload_n 1, 1) := by decide +kernel
theorem dX3_freeInAll_26 : decode cX3_freeInAll 26 = .ok (.ireturn, 1) := by decide +kernel
theorem dX4_init_0 : decode cX4_init 0 = .ok (.aload_n 0, 1) := by decide +kernel
theorem dX4_init_1 : decode cX4_init 1 = .ok (.invokespecial 3, 3) := by decide +kernel
theorem dX4_init_4 : decode cX4_init 4 = .ok (.aload_n 0, 1) := by decide +kernel
theorem dX4_init_5 : decode cX4_init 5 = .ok (.new 9, 3) := by decide +kernel
theorem dX4_init_8 : decode cX4_init 8 = .ok (.dup, 1) := by decide +kernel
theorem dX4_init_9 : decode cX4_init 9 = .ok (.invokespecial 11, 3) := by decide +kernel
theorem dX4_init_12 : decode cX4_init 12 = .ok (.putfield 12, 3) := by decide +kernel
theorem dX4_init_15 : decode cX4_init 15 = .ok (.aload_n 0, 1) := by decide +kernel
theorem dX4_init_16 : decode cX4_init 16 = .ok (.new 16, 3) := by decide +kernel
theorem dX4_init_19 : decode cX4_init 19 = .ok (.dup, 1) := by decide +kernel
theorem dX4_init_20 : decode cX4_init 20 = .ok (.invokespecial 18, 3) := by decide +kernel
theorem dX4_init_23 : decode cX4_init 23 = .ok (.putfield 19, 3) := by decide +kernel
theorem dX4_init_26 : decode cX4_init 26 = .ok (.aload_n 0, 1) := by decide +kernel
theorem dX4_init_27 : decode cX4_init 27 = .ok (.iconst 2, 1) := by decide +kernel
theorem dX4_init_28 : decode cX4_init 28 = .ok (.anewarray 23, 3) := by decide +kernel
theorem dX4_init_31 : decode cX4_init 31 = .ok (.putfield 25, 3) := by decide +kernel
theorem dX4_init_34 : decode cX4_init 34 = .ok (.aload_n 0, 1) := by decide +kernel
theorem dX4_init_35 : decode cX4_init 35 = .ok (.new 23, 3) := by decide +kernel
theorem dX4_init_38 : decode cX4_init 38 = .ok (.dup, 1) := by decide +kernel
theorem dX4_init_39 : decode cX4_init 39 = .ok (.invokespecial 29, 3) := by decide +kernel
theorem dX4_init_42 : decode cX4_init 42 = .ok (.putfield 30, 3) := by decide +kernel
theorem dX4_init_45 : decode cX4_init 45 = .ok (.aload_n 0, 1) := by decide +kernel
theorem dX4_init_46 : decode cX4_init 46 = .ok (.new 23, 3) := by decide +kernel
theorem dX4_init_49 : decode cX4_init 49 = .ok (.dup, 1) := by decide +kernel
theorem dX4_init_50 : decode cX4_init 50 = .ok (.invokespecial 29, 3) := by decide +kernel
theorem dX4_init_53 : decode cX4_init 53 = .ok (.putfield 34, 3) := by decide +kernel
theorem dX4_init_56 : decode cX4_init 56 = .ok (.return_, 1) := by decide +kernel
theorem dX4_set_0 : decode cX4_set 0 = .ok (.iload_n 1, 1) := by decide +kernel
theorem dX4_set_1 : decode cX4_set 1 = .ok (.ifCond .ne 9, 3) := by decide +kernel
theorem dX4_set_4 : decode cX4_set 4 = .ok (.aload_n 0, 1) := by decide +kernel
theorem dX4_set_5 : decode cX4_set 5 = .ok (.iload_n 2, 1) := by decide +kernel
theorem dX4_set_6 : decode cX4_set 6 = .ok (.invokevirtual 37, 3) := by decide +kernel
theorem dX4_set_9 : decode cX4_set 9 = .ok (.ireturn, 1) := by decide +kernel
theorem dX4_set_10 : decode cX4_set 10 = .ok (.iload_n 1, 1) := by decide +kernel
theorem dX4_set_11 : decode cX4_set 11 = .ok (.iconst 1, 1) := by decide +kernel
theorem dX4_set_12 : decode cX4_set 12 = .ok (.if_icmp .ne 9, 3) := by decide +kernel
theorem dX4_set_15 : decode cX4_set 15 = .ok (.aload_n 0, 1) := by decide +kernel
theorem dX4_set_16 : decode cX4_set 16 = .ok (.iload_n 2, 1) := by decide +kernel
theorem dX4_set_17 : decode cX4_set 17 = .ok (.invokevirtual 41, 3) := by decide +kernel
theorem dX4_set_20 : decode cX4_set 20 = .ok (.ireturn, 1) := by decide +kernel
theorem dX4_set_21 : decode cX4_set 21 = .ok (.bipush (-2), 2) := by decide +kernel
theorem dX4_set_23 : decode cX4_set 23 = .ok (.ireturn, 1) := by decide +kernel
theorem dX4_setHead_0 : decode cX4_setHead 0 = .ok (.iload_n 1, 1) := by decide +kernel
theorem dX4_setHead_1 : decode cX4_setHead 1 = .ok (.ifCond .lt 9, 3) := by decide +kernel
theorem dX4_setHead_4 : decode cX4_setHead 4 = .ok (.iload_n 1, 1) := by decide +kernel
theorem dX4_setHead_5 : decode cX4_setHead 5 = .ok (.bipush 16, 2) := by decide +kernel
theorem dX4_setHead_7 : decode cX4_setHead 7 = .ok (.if_icmp .le 6, 3) := by decide +kernel
theorem dX4_setHead_10 : decode cX4_setHead 10 = .ok (.bipush (-2), 2) := by decide +kernel
theorem dX4_setHead_12 : decode cX4_setHead 12 = .ok (.ireturn, 1) := by decide +kernel
theorem dX4_setHead_13 : decode cX4_setHead 13 = .ok (.aload_n 0, 1) := by decide +kernel
theorem dX4_setHead_14 : decode cX4_setHead 14 = .ok (.getfield 19, 3) := by decide +kernel
theorem dX4_setHead_17 : decode cX4_setHead 17 = .ok (.aload_n 0, 1) := by decide +kernel
theorem dX4_setHead_18 : decode cX4_setHead 18 = .ok (.getfield 30, 3) := by decide +kernel
theorem dX4_setHead_21 : decode cX4_setHead 21 = .ok (.invokevirtual 44, 3) := by decide +kernel
theorem dX4_setHead_24 : decode cX4_setHead 24 = .ok (.aload_n 0, 1) := by decide +kernel
theorem dX4_setHead_25 : decode cX4_setHead 25 = .ok (.getfield 30, 3) := by decide +kernel
theorem dX4_setHead_28 : decode cX4_setHead 28 = .ok (.getfield 48, 3) := by decide +kernel
theorem dX4_setHead_31 : decode cX4_setHead 31 = .ok (.istore_n 2, 1) := by decide +kernel
theorem dX4_setHead_32 : decode cX4_setHead 32 = .ok (.aload_n 0, 1) := by decide +kernel
theorem dX4_setHead_33 : decode cX4_setHead 33 = .ok (.getfield 30, 3) := by decide +kernel
theorem dX4_setHead_36 : decode cX4_setHead 36 = .ok (.iload_n 1, 1) := by decide +kernel
theorem dX4_setHead_37 : decode cX4_setHead 37 = .ok (.putfield 48, 3) := by decide +kernel
theorem dX4_setHead_40 : decode cX4_setHead 40 = .ok (.iload_n 2, 1) := by decide +kernel
theorem dX4_setHead_41 : decode cX4_setHead 41 = .ok (.ireturn, 1) := by decide +kernel
theorem dX4_setPiece_0 : decode cX4_setPiece 0 = .ok (.iload_n 1, 1) := by decide +kernel
theorem dX4_setPiece_1 : decode cX4_setPiece 1 = .ok (.iconst 1, 1) := by decide +kernel
theorem dX4_setPiece_2 : decode cX4_setPiece 2 = .ok (.if_icmp .lt 9, 3) := by decide +kernel
theorem dX4_setPiece_5 : decode cX4_setPiece 5 = .ok (.iload_n 1, 1) := by decide +kernel
theorem dX4_setPiece_6 : decode cX4_setPiece 6 = .ok (.bipush 12, 2) := by decide +kernel
theorem dX4_setPiece_8 : decode cX4_setPiece 8 = .ok (.if_icmp .le 6, 3) := by decide +kernel
theorem dX4_setPiece_11 : decode cX4_setPiece 11 = .ok (.bipush (-2), 2) := by decide +kernel
theorem dX4_setPiece_13 : decode cX4_setPiece 13 = .ok (.ireturn, 1) := by decide +kernel
theorem dX4_setPiece_14 : decode cX4_setPiece 14 = .ok (.aload_n 0, 1) := by decide +kernel
theorem dX4_setPiece_15 : decode cX4_setPiece 15 = .ok (.getfield 19, 3) := by decide +kernel
theorem dX4_setPiece_18 : decode cX4_setPiece 18 = .ok (.aload_n 0, 1) := by decide +kernel
theorem dX4_setPiece_19 : decode cX4_setPiece 19 = .ok (.getfield 30, 3) := by decide +kernel
theorem dX4_setPiece_22 : decode cX4_setPiece 22 = .ok (.invokevirtual 44, 3) := by decide +kernel
theorem dX4_setPiece_25 : decode cX4_setPiece 25 = .ok (.aload_n 0, 1) := by decide +kernel
theorem dX4_setPiece_26 : decode cX4_setPiece 26 = .ok (.getfield 30, 3) := by decide +kernel
theorem dX4_setPiece_29 : decode cX4_setPiece 29 = .ok (.getfield 52, 3) := by decide +kernel
theorem dX4_setPiece_32 : decode cX4_setPiece 32 = .ok (.istore_n 2, 1) := by decide +kernel
theorem dX4_setPiece_33 : decode cX4_setPiece 33 = .ok (.aload_n 0, 1) := by decide +kernel
theorem dX4_setPiece_34 : decode cX4_setPiece 34 = .ok (.getfield 30, 3) := by decide +kernel
theorem dX4_setPiece_37 : decode cX4_setPiece 37 = .ok (.iload_n 1, 1) := by decide +kernel
theorem dX4_setPiece_38 : decode cX4_setPiece 38 = .ok (.putfield 52, 3) := by decide +kernel
theorem dX4_setPiece_41 : decode cX4_setPiece 41 = .ok (.iload_n 2, 1) := by decide +kernel
theorem dX4_setPiece_42 : decode cX4_setPiece 42 = .ok (.ireturn, 1) := by decide +kernel
theorem dX4_write_0 : decode cX4_write 0 = .ok (.aload_n 0, 1) := by decide +kernel
theorem dX4_write_1 : decode cX4_write 1 = .ok (.getfield 12, 3) := by decide +kernel
theorem dX4_write_4 : decode cX4_write 4 = .ok (.invokevirtual 55, 3) := by decide +kernel
theorem dX4_write_7 : decode cX4_write 7 = .ok (.iconst (-1), 1) := by decide +kernel
theorem dX4_write_8 : decode cX4_write 8 = .ok (.if_icmp .eq 6, 3) := by decide +kernel
theorem dX4_write_11 : decode cX4_write 11 = .ok (.bipush (-3), 2) := by decide +kernel
theorem dX4_write_13 : decode cX4_write 13 = .ok (.ireturn, 1) := by decide +kernel
theorem dX4_write_14 : decode cX4_write 14 = .ok (.aload_n 0, 1) := by decide +kernel
theorem dX4_write_15 : decode cX4_write 15 = .ok (.getfield 19, 3) := by decide +kernel
theorem dX4_write_18 : decode cX4_write 18 = .ok (.aload_n 0, 1) := by decide +kernel
theorem dX4_write_19 : decode cX4_write 19 = .ok (.getfield 30, 3) := by decide +kernel
theorem dX4_write_22 : decode cX4_write 22 = .ok (.invokevirtual 44, 3) := by decide +kernel
theorem dX4_write_25 : decode cX4_write 25 = .ok (.iconst 0, 1) := by decide +kernel
theorem dX4_write_26 : decode cX4_write 26 = .ok (.istore_n 1, 1) := by decide +kernel
theorem dX4_write_27 : decode cX4_write 27 = .ok (.iload_n 1, 1) := by decide +kernel
theorem dX4_write_28 : decode cX4_write 28 = .ok (.aload_n 0, 1) := by decide +kernel
theorem dX4_write_29 : decode cX4_write 29 = .ok (.getfield 12, 3) := by decide +kernel
theorem dX4_write_32 : decode cX4_write 32 = .ok (.getfield 59, 3) := by decide +kernel
theorem dX4_write_35 : decode cX4_write 35 = .ok (.if_icmp .ge 17, 3) := by decide +kernel
theorem dX4_write_38 : decode cX4_write 38 = .ok (.aload_n 0, 1) := by decide +kernel
theorem dX4_write_39 : decode cX4_write 39 = .ok (.iload_n 1, 1) := by decide +kernel
theorem dX4_write_40 : decode cX4_write 40 = .ok (.invokevirtual 62, 3) := by decide +kernel
theorem dX4_write_43 : decode cX4_write 43 = .ok (.ifCond .eq 9, 3) := by decide +kernel
theorem dX4_write_46 : decode cX4_write 46 = .ok (.iinc 1 1, 3) := by decide +kernel
theorem dX4_write_49 : decode cX4_write 49 = .ok (.goto (-22), 3) := by decide +kernel
theorem dX4_write_52 : decode cX4_write 52 = .ok (.aload_n 0, 1) := by decide +kernel
theorem dX4_write_53 : decode cX4_write 53 = .ok (.getfield 12, 3) := by decide +kernel
theorem dX4_write_56 : decode cX4_write 56 = .ok (.iconst 0, 1) := by decide +kernel
theorem dX4_write_57 : decode cX4_write 57 = .ok (.putfield 66, 3) := by decide +kernel
theorem dX4_write_60 : decode cX4_write 60 = .ok (.iload_n 1, 1) := by decide +kernel
theorem dX4_write_61 : decode cX4_write 61 = .ok (.ireturn, 1) := by decide +kernel
theorem dX4_writePadRow_0 : decode cX4_writePadRow 0 = .ok (.aload_n 0, 1) := by decide +kernel
theorem dX4_writePadRow_1 : decode cX4_writePadRow 1 = .ok (.getfield 12, 3) := by decide +kernel
theorem dX4_writePadRow_4 : decode cX4_writePadRow 4 = .ok (.getfield 69, 3) := by decide +kernel
theorem dX4_writePadRow_7 : decode cX4_writePadRow 7 = .ok (.iload_n 1, 1) := by decide +kernel
theorem dX4_writePadRow_8 : decode cX4_writePadRow 8 = .ok (.iaload, 1) := by decide +kernel
theorem dX4_writePadRow_9 : decode cX4_writePadRow 9 = .ok (.istore_n 2, 1) := by decide +kernel
theorem dX4_writePadRow_10 : decode cX4_writePadRow 10 = .ok (.aload_n 0, 1) := by decide +kernel
theorem dX4_writePadRow_11 : decode cX4_writePadRow 11 = .ok (.getfield 34, 3) := by decide +kernel
theorem dX4_writePadRow_14 : decode cX4_writePadRow 14 = .ok (.aload_n 0, 1) := by decide +kernel
theorem dX4_writePadRow_15 : decode cX4_writePadRow 15 = .ok (.getfield 30, 3) := by decide +kernel
theorem dX4_writePadRow_18 : decode cX4_writePadRow 18 = .ok (.invokevirtual 73, 3) := by decide +kernel
theorem dX4_writePadRow_21 : decode cX4_writePadRow 21 = .ok (.aload_n 0, 1) := by decide +kernel
theorem dX4_writePadRow_22 : decode cX4_writePadRow 22 = .ok (.getfield 34, 3) := by decide +kernel
theorem dX4_writePadRow_25 : decode cX4_writePadRow 25 = .ok (.aload_n 0, 1) := by decide +kernel
theorem dX4_writePadRow_26 : decode cX4_writePadRow 26 = .ok (.getfield 12, 3) := by decide +kernel
theorem dX4_writePadRow_29 : decode cX4_writePadRow 29 = .ok (.getfield 76, 3) := by decide +kernel
theorem dX4_writePadRow_32 : decode cX4_writePadRow 32 = .ok (.iload_n 1, 1) := by decide +kernel
theorem dX4_writePadRow_33 : decode cX4_writePadRow 33 = .ok (.iaload, 1) := by decide +kernel
theorem dX4_writePadRow_34 : decode cX4_writePadRow 34 = .ok (.iload_n 2, 1) := by decide +kernel
theorem dX4_writePadRow_35 : decode cX4_writePadRow 35 = .ok (.invokevirtual 79, 3) := by decide +kernel
theorem dX4_writePadRow_38 : decode cX4_writePadRow 38 = .ok (.istore_n 3, 1) := by decide +kernel
theorem dX4_writePadRow_39 : decode cX4_writePadRow 39 = .ok (.iload_n 3, 1) := by decide +kernel
theorem dX4_writePadRow_40 : decode cX4_writePadRow 40 = .ok (.iconst (-1), 1) := by decide +kernel
theorem dX4_writePadRow_41 : decode cX4_writePadRow 41 = .ok (.if_icmp .ne 5, 3) := by decide +kernel
theorem dX4_writePadRow_44 : decode cX4_writePadRow 44 = .ok (.iconst 0, 1) := by decide +kernel
theorem dX4_writePadRow_45 : decode cX4_writePadRow 45 = .ok (.ireturn, 1) := by decide +kernel
theorem dX4_writePadRow_46 : decode cX4_writePadRow 46 = .ok (.iconst 0, 1) := by decide +kernel
theorem dX4_writePadRow_47 : decode cX4_writePadRow 47 = .ok (.istore 4, 2) := by decide +kernel
theorem dX4_writePadRow_49 : decode cX4_writePadRow 49 = .ok (.iload 4, 2) := by decide +kernel
theorem dX4_writePadRow_51 : decode cX4_writePadRow 51 = .ok (.iload_n 2, 1) := by decide +kernel
theorem dX4_writePadRow_52 : decode cX4_writePadRow 52 = .ok (.if_icmp .ge 44, 3) := by decide +kernel
theorem dX4_writePadRow_55 : decode cX4_writePadRow 55 = .ok (.aload_n 0, 1) := by decide +kernel
theorem dX4_writePadRow_56 : decode cX4_writePadRow 56 = .ok (.getfield 34, 3) := by decide +kernel
theorem dX4_writePadRow_59 : decode cX4_writePadRow 59 = .ok (.getfield 83, 3) := by decide +kernel
theorem dX4_writePadRow_62 : decode cX4_writePadRow 62 = .ok (.iload_n 3, 1) := by decide +kernel
theorem dX4_writePadRow_63 : decode cX4_writePadRow 63 = .ok (.aaload, 1) := by decide +kernel
theorem dX4_writePadRow_64 : decode cX4_writePadRow 64 = .ok (.iload 4, 2) := by decide +kernel
theorem dX4_writePadRow_66 : decode cX4_writePadRow 66 = .ok (.aload_n 0, 1) := by decide +kernel
theorem dX4_writePadRow_67 : decode cX4_writePadRow 67 = .ok (.getfield 12, 3) := by decide +kernel
theorem dX4_writePadRow_70 : decode cX4_writePadRow 70 = .ok (.getfield 87, 3) := by decide +kernel
theorem dX4_writePadRow_73 : decode cX4_writePadRow 73 = .ok (.aload_n 0, 1) := by decide +kernel
theorem dX4_writePadRow_74 : decode cX4_writePadRow 74 = .ok (.getfield 12, 3) := by decide +kernel
theorem dX4_writePadRow_77 : decode cX4_writePadRow 77 = .ok (.getfield 90, 3) := by decide +kernel
theorem dX4_writePadRow_80 : decode cX4_writePadRow 80 = .ok (.iload_n 1, 1) := by decide +kernel
theorem dX4_writePadRow_81 : decode cX4_writePadRow 81 = .ok (.iaload, 1) := by decide +kernel
theorem dX4_writePadRow_82 : decode cX4_writePadRow 82 = .ok (.iload 4, 2) := by decide +kernel
theorem dX4_writePadRow_84 : decode cX4_writePadRow 84 = .ok (.iadd, 1) := by decide +kernel
theorem dX4_writePadRow_85 : decode cX4_writePadRow 85 = .ok (.iaload, 1) := by decide +kernel
theorem dX4_writePadRow_86 : decode cX4_writePadRow 86 = .ok (.bipush 97, 2) := by decide +kernel
theorem dX4_writePadRow_88 : decode cX4_writePadRow 88 = .ok (.isub, 1) := by decide +kernel
theorem dX4_writePadRow_89 : decode cX4_writePadRow 89 = .ok (.iastore, 1) := by decide +kernel
theorem dX4_writePadRow_90 : decode cX4_writePadRow 90 = .ok (.iinc 4 1, 3) := by decide +kernel
theorem dX4_writePadRow_93 : decode cX4_writePadRow 93 = .ok (.goto (-44), 3) := by decide +kernel
theorem dX4_writePadRow_96 : decode cX4_writePadRow 96 = .ok (.aload_n 0, 1) := by decide +kernel
theorem dX4_writePadRow_97 : decode cX4_writePadRow 97 = .ok (.invokevirtual 93, 3) := by decide +kernel
theorem dX4_writePadRow_100 : decode cX4_writePadRow 100 = .ok (.iconst 1, 1) := by decide +kernel
theorem dX4_writePadRow_101 : decode cX4_writePadRow 101 = .ok (.ireturn, 1) := by decide +kernel
theorem dX4_append_0 : decode cX4_append 0 = .ok (.aload_n 0, 1) := by decide +kernel
theorem dX4_append_1 : decode cX4_append 1 = .ok (.getfield 30, 3) := by decide +kernel
theorem dX4_append_4 : decode cX4_append 4 = .ok (.iload_n 1, 1) := by decide +kernel
theorem dX4_append_5 : decode cX4_append 5 = .ok (.invokevirtual 96, 3) := by decide +kernel
theorem dX4_append_8 : decode cX4_append 8 = .ok (.istore_n 3, 1) := by decide +kernel
theorem dX4_append_9 : decode cX4_append 9 = .ok (.iload_n 3, 1) := by decide +kernel
theorem dX4_append_10 : decode cX4_append 10 = .ok (.iconst (-1), 1) := by decide +kernel
theorem dX4_append_11 : decode cX4_append 11 = .ok (.if_icmp .ne 5, 3) := by decide +kernel
theorem dX4_append_14 : decode cX4_append 14 = .ok (.iconst (-1), 1) := by decide +kernel
theorem dX4_append_15 : decode cX4_append 15 = .ok (.ireturn, 1) := by decide +kernel
theorem dX4_append_16 : decode cX4_append 16 = .ok (.iload_n 2, 1) := by decide +kernel
theorem dX4_append_17 : decode cX4_append 17 = .ok (.ifCond .lt 9, 3) := by decide +kernel
theorem dX4_append_20 : decode cX4_append 20 = .ok (.iload_n 2, 1) := by decide +kernel
theorem dX4_append_21 : decode cX4_append 21 = .ok (.bipush 26, 2) := by decide +kernel
theorem dX4_append_23 : decode cX4_append 23 = .ok (.if_icmp .lt 6, 3) := by decide +kernel
theorem dX4_append_26 : decode cX4_append 26 = .ok (.bipush (-2), 2) := by decide +kernel
theorem dX4_append_28 : decode cX4_append 28 = .ok (.ireturn, 1) := by decide +kernel
theorem dX4_append_29 : decode cX4_append 29 = .ok (.aload_n 0, 1) := by decide +kernel
theorem dX4_append_30 : decode cX4_append 30 = .ok (.getfield 30, 3) := by decide +kernel
theorem dX4_append_33 : decode cX4_append 33 = .ok (.getfield 99, 3) := by decide +kernel
theorem dX4_append_36 : decode cX4_append 36 = .ok (.iload_n 3, 1) := by decide +kernel
theorem dX4_append_37 : decode cX4_append 37 = .ok (.iaload, 1) := by decide +kernel
theorem dX4_append_38 : decode cX4_append 38 = .ok (.istore 4, 2) := by decide +kernel
theorem dX4_append_40 : decode cX4_append 40 = .ok (.iload 4, 2) := by decide +kernel
theorem dX4_append_42 : decode cX4_append 42 = .ok (.bipush 40, 2) := by decide +kernel
theorem dX4_append_44 : decode cX4_append 44 = .ok (.if_icmp .lt 6, 3) := by decide +kernel
theorem dX4_append_47 : decode cX4_append 47 = .ok (.bipush (-4), 2) := by decide +kernel
theorem dX4_append_49 : decode cX4_append 49 = .ok (.ireturn, 1) := by decide +kernel
theorem dX4_append_50 : decode cX4_append 50 = .ok (.aload_n 0, 1) := by decide +kernel
theorem dX4_append_51 : decode cX4_append 51 = .ok (.getfield 34, 3) := by decide +kernel
theorem dX4_append_54 : decode cX4_append 54 = .ok (.aload_n 0, 1) := by decide +kernel
theorem dX4_append_55 : decode cX4_append 55 = .ok (.getfield 30, 3) := by decide +kernel
theorem dX4_append_58 : decode cX4_append 58 = .ok (.invokevirtual 73, 3) := by decide +kernel
theorem dX4_append_61 : decode cX4_append 61 = .ok (.aload_n 0, 1) := by decide +kernel
theorem dX4_append_62 : decode cX4_append 62 = .ok (.getfield 34, 3) := by decide +kernel
theorem dX4_append_65 : decode cX4_append 65 = .ok (.iload_n 1, 1) := by decide +kernel
theorem dX4_append_66 : decode cX4_append 66 = .ok (.iload 4, 2) := by decide +kernel
theorem dX4_append_68 : decode cX4_append 68 = .ok (.iconst 1, 1) := by decide +kernel
theorem dX4_append_69 : decode cX4_append 69 = .ok (.iadd, 1) := by decide +kernel
theorem dX4_append_70 : decode cX4_append 70 = .ok (.invokevirtual 79, 3) := by decide +kernel
theorem dX4_append_73 : decode cX4_append 73 = .ok (.iconst (-1), 1) := by decide +kernel
theorem dX4_append_74 : decode cX4_append 74 = .ok (.if_icmp .ne 6, 3) := by decide +kernel
theorem dX4_append_77 : decode cX4_append 77 = .ok (.bipush (-5), 2) := by decide +kernel
theorem dX4_append_79 : decode cX4_append 79 = .ok (.ireturn, 1) := by decide +kernel
theorem dX4_append_80 : decode cX4_append 80 = .ok (.aload_n 0, 1) := by decide +kernel
theorem dX4_append_81 : decode cX4_append 81 = .ok (.getfield 34, 3) := by decide +kernel
theorem dX4_append_84 : decode cX4_append 84 = .ok (.getfield 83, 3) := by decide +kernel
theorem dX4_append_87 : decode cX4_append 87 = .ok (.iload_n 3, 1) := by decide +kernel
theorem dX4_append_88 : decode cX4_append 88 = .ok (.aaload, 1) := by decide +kernel
theorem dX4_append_89 : decode cX4_append 89 = .ok (.iload 4, 2) := by decide +kernel
theorem dX4_append_91 : decode cX4_append 91 = .ok (.iload_n 2, 1) := by decide +kernel
theorem dX4_append_92 : decode cX4_append 92 = .ok (.iastore, 1) := by decide +kernel
theorem dX4_append_93 : decode cX4_append 93 = .ok (.aload_n 0, 1) := by decide +kernel
theorem dX4_append_94 : decode cX4_append 94 = .ok (.getfield 19, 3) := by decide +kernel
theorem dX4_append_97 : decode cX4_append 97 = .ok (.aload_n 0, 1) := by decide +kernel
theorem dX4_append_98 : decode cX4_append 98 = .ok (.getfield 30, 3) := by decide +kernel
theorem dX4_append_101 : decode cX4_append 101 = .ok (.invokevirtual 44, 3) := by decide +kernel
theorem dX4_append_104 : decode cX4_append 104 = .ok (.aload_n 0, 1) := by decide +kernel
theorem dX4_append_105 : decode cX4_append 105 = .ok (.invokevirtual 93, 3) := by decide +kernel
theorem dX4_append_108 : decode cX4_append 108 = .ok (.iload 4, 2) := by decide +kernel
theorem dX4_append_110 : decode cX4_append 110 = .ok (.iconst 1, 1) := by decide +kernel
theorem dX4_append_111 : decode cX4_append 111 = .ok (.iadd, 1) := by decide +kernel
theorem dX4_append_112 : decode cX4_append 112 = .ok (.ireturn, 1) := by decide +kernel
theorem dX4_delete_0 : decode cX4_delete 0 = .ok (.aload_n 0, 1) := by decide +kernel
theorem dX4_delete_1 : decode cX4_delete 1 = .ok (.getfield 30, 3) := by decide +kernel
theorem dX4_delete_4 : decode cX4_delete 4 = .ok (.iload_n 1, 1) := by decide +kernel
theorem dX4_delete_5 : decode cX4_delete 5 = .ok (.invokevirtual 96, 3) := by decide +kernel
theorem dX4_delete_8 : decode cX4_delete 8 = .ok (.istore_n 2, 1) := by decide +kernel
theorem dX4_delete_9 : decode cX4_delete 9 = .ok (.iload_n 2, 1) := by decide +kernel
theorem dX4_delete_10 : decode cX4_delete 10 = .ok (.iconst (-1), 1) := by decide +kernel
theorem dX4_delete_11 : decode cX4_delete 11 = .ok (.if_icmp .ne 5, 3) := by decide +kernel
theorem dX4_delete_14 : decode cX4_delete 14 = .ok (.iconst (-1), 1) := by decide +kernel
theorem dX4_delete_15 : decode cX4_delete 15 = .ok (.ireturn, 1) := by decide +kernel
theorem dX4_delete_16 : decode cX4_delete 16 = .ok (.aload_n 0, 1) := by decide +kernel
theorem dX4_delete_17 : decode cX4_delete 17 = .ok (.getfield 19, 3) := by decide +kernel
theorem dX4_delete_20 : decode cX4_delete 20 = .ok (.aload_n 0, 1) := by decide +kernel
theorem dX4_delete_21 : decode cX4_delete 21 = .ok (.getfield 30, 3) := by decide +kernel
theorem dX4_delete_24 : decode cX4_delete 24 = .ok (.invokevirtual 44, 3) := by decide +kernel
theorem dX4_delete_27 : decode cX4_delete 27 = .ok (.aload_n 0, 1) := by decide +kernel
theorem dX4_delete_28 : decode cX4_delete 28 = .ok (.getfield 30, 3) := by decide +kernel
theorem dX4_delete_31 : decode cX4_delete 31 = .ok (.iload_n 2, 1) := by decide +kernel
theorem dX4_delete_32 : decode cX4_delete 32 = .ok (.invokevirtual 100, 3) := by decide +kernel
theorem dX4_delete_35 : decode cX4_delete 35 = .ok (.istore_n 3, 1) := by decide +kernel
theorem dX4_delete_36 : decode cX4_delete 36 = .ok (.aload_n 0, 1) := by decide +kernel
theorem dX4_delete_37 : decode cX4_delete 37 = .ok (.getfield 30, 3) := by decide +kernel
theorem dX4_delete_40 : decode cX4_delete 40 = .ok (.iload_n 2, 1) := by decide +kernel
theorem dX4_delete_41 : decode cX4_delete 41 = .ok (.invokevirtual 103, 3) := by decide +kernel
theorem dX4_delete_44 : decode cX4_delete 44 = .ok (.iload_n 3, 1) := by decide +kernel
theorem dX4_delete_45 : decode cX4_delete 45 = .ok (.ireturn, 1) := by decide +kernel
theorem dX4_pack_0 : decode cX4_pack 0 = .ok (.aload_n 0, 1) := by decide +kernel
theorem dX4_pack_1 : decode cX4_pack 1 = .ok (.aload_n 0, 1) := by decide +kernel
theorem dX4_pack_2 : decode cX4_pack 2 = .ok (.getfield 30, 3) := by decide +kernel
theorem dX4_pack_5 : decode cX4_pack 5 = .ok (.getfield 48, 3) := by decide +kernel
theorem dX4_pack_8 : decode cX4_pack 8 = .ok (.invokevirtual 107, 3) := by decide +kernel
theorem dX4_pack_11 : decode cX4_pack 11 = .ok (.ifCond .ne 6, 3) := by decide +kernel
theorem dX4_pack_14 : decode cX4_pack 14 = .ok (.bipush (-5), 2) := by decide +kernel
theorem dX4_pack_16 : decode cX4_pack 16 = .ok (.ireturn, 1) := by decide +kernel
theorem dX4_pack_17 : decode cX4_pack 17 = .ok (.aload_n 0, 1) := by decide +kernel
theorem dX4_pack_18 : decode cX4_pack 18 = .ok (.getfield 19, 3) := by decide +kernel
theorem dX4_pack_21 : decode cX4_pack 21 = .ok (.aload_n 0, 1) := by decide +kernel
theorem dX4_pack_22 : decode cX4_pack 22 = .ok (.getfield 30, 3) := by decide +kernel
theorem dX4_pack_25 : decode cX4_pack 25 = .ok (.invokevirtual 44, 3) := by decide +kernel
theorem dX4_pack_28 : decode cX4_pack 28 = .ok (.aload_n 0, 1) := by decide +kernel
theorem dX4_pack_29 : decode cX4_pack 29 = .ok (.invokevirtual 93, 3) := by decide +kernel
theorem dX4_pack_32 : decode cX4_pack 32 = .ok (.aload_n 0, 1) := by decide +kernel
theorem dX4_pack_33 : decode cX4_pack 33 = .ok (.getfield 30, 3) := by decide +kernel
theorem dX4_pack_36 : decode cX4_pack 36 = .ok (.getfield 110, 3) := by decide +kernel
theorem dX4_pack_39 : decode cX4_pack 39 = .ok (.invokevirtual 114, 3) := by decide +kernel
theorem dX4_pack_42 : decode cX4_pack 42 = .ok (.ireturn, 1) := by decide +kernel
theorem dX4_tryPacking_0 : decode cX4_tryPacking 0 = .ok (.aload_n 0, 1) := by decide +kernel
theorem dX4_tryPacking_1 : decode cX4_tryPacking 1 = .ok (.getfield 34, 3) := by decide +kernel
theorem dX4_tryPacking_4 : decode cX4_tryPacking 4 = .ok (.aload_n 0, 1) := by decide +kernel
theorem dX4_tryPacking_5 : decode cX4_tryPacking 5 = .ok (.getfield 30, 3) := by decide +kernel
theorem dX4_tryPacking_8 : decode cX4_tryPacking 8 = .ok (.invokevirtual 73, 3) := by decide +kernel
theorem dX4_tryPacking_11 : decode cX4_tryPacking 11 = .ok (.aload_n 0, 1) := by decide +kernel
theorem dX4_tryPacking_12 : decode cX4_tryPacking 12 = .ok (.getfield 34, 3) := by decide +kernel
theorem dX4_tryPacking_15 : decode cX4_tryPacking 15 = .ok (.iload_n 1, 1) := by decide +kernel
theorem dX4_tryPacking_16 : decode cX4_tryPacking 16 = .ok (.putfield 48, 3) := by decide +kernel
theorem dX4_tryPacking_19 : decode cX4_tryPacking 19 = .ok (.aload_n 0, 1) := by decide +kernel
theorem dX4_tryPacking_20 : decode cX4_tryPacking 20 = .ok (.getfield 34, 3) := by decide +kernel
theorem dX4_tryPacking_23 : decode cX4_tryPacking 23 = .ok (.invokevirtual 119, 3) := by decide +kernel
theorem dX4_tryPacking_26 : decode cX4_tryPacking 26 = .ok (.ireturn, 1) := by decide +kernel
theorem dX4_takeTrial_0 : decode cX4_takeTrial 0 = .ok (.aload_n 0, 1) := by decide +kernel
theorem dX4_takeTrial_1 : decode cX4_takeTrial 1 = .ok (.getfield 30, 3) := by decide +kernel
theorem dX4_takeTrial_4 : decode cX4_takeTrial 4 = .ok (.astore_n 1, 1) := by decide +kernel
theorem dX4_takeTrial_5 : decode cX4_takeTrial 5 = .ok (.aload_n 0, 1) := by decide +kernel
theorem dX4_takeTrial_6 : decode cX4_takeTrial 6 = .ok (.aload_n 0, 1) := by decide +kernel
theorem dX4_takeTrial_7 : decode cX4_takeTrial 7 = .ok (.getfield 34, 3) := by decide +kernel
theorem dX4_takeTrial_10 : decode cX4_takeTrial 10 = .ok (.putfield 30, 3) := by decide +kernel
theorem dX4_takeTrial_13 : decode cX4_takeTrial 13 = .ok (.aload_n 0, 1) := by decide +kernel
theorem dX4_takeTrial_14 : decode cX4_takeTrial 14 = .ok (.aload_n 1, 1) := by decide +kernel
theorem dX4_takeTrial_15 : decode cX4_takeTrial 15 = .ok (.putfield 34, 3) := by decide +kernel
theorem dX4_takeTrial_18 : decode cX4_takeTrial 18 = .ok (.return_, 1) := by decide +kernel
theorem dX4_row_0 : decode cX4_row 0 = .ok (.aload_n 0, 1) := by decide +kernel
theorem dX4_row_1 : decode cX4_row 1 = .ok (.getfield 30, 3) := by decide +kernel
theorem dX4_row_4 : decode cX4_row 4 = .ok (.iload_n 1, 1) := by decide +kernel
theorem dX4_row_5 : decode cX4_row 5 = .ok (.invokevirtual 96, 3) := by decide +kernel
theorem dX4_row_8 : decode cX4_row 8 = .ok (.istore_n 3, 1) := by decide +kernel
theorem dX4_row_9 : decode cX4_row 9 = .ok (.iload_n 3, 1) := by decide +kernel
theorem dX4_row_10 : decode cX4_row 10 = .ok (.iconst (-1), 1) := by decide +kernel
theorem dX4_row_11 : decode cX4_row 11 = .ok (.if_icmp .ne 5, 3) := by decide +kernel
theorem dX4_row_14 : decode cX4_row 14 = .ok (.iconst (-1), 1) := by decide +kernel
theorem dX4_row_15 : decode cX4_row 15 = .ok (.ireturn, 1) := by decide +kernel
theorem dX4_row_16 : decode cX4_row 16 = .ok (.iload_n 2, 1) := by decide +kernel
theorem dX4_row_17 : decode cX4_row 17 = .ok (.tableswitch 185 0 9 #[55, 65, 78, 91, 104, 117, 134, 157, 167, 176], 55) := by decide +kernel
theorem dX4_row_72 : decode cX4_row 72 = .ok (.aload_n 0, 1) := by decide +kernel
theorem dX4_row_73 : decode cX4_row 73 = .ok (.getfield 30, 3) := by decide +kernel
theorem dX4_row_76 : decode cX4_row 76 = .ok (.getfield 99, 3) := by decide +kernel
theorem dX4_row_79 : decode cX4_row 79 = .ok (.iload_n 3, 1) := by decide +kernel
theorem dX4_row_80 : decode cX4_row 80 = .ok (.iaload, 1) := by decide +kernel
theorem dX4_row_81 : decode cX4_row 81 = .ok (.ireturn, 1) := by decide +kernel
theorem dX4_row_82 : decode cX4_row 82 = .ok (.aload_n 0, 1) := by decide +kernel
theorem dX4_row_83 : decode cX4_row 83 = .ok (.getfield 30, 3) := by decide +kernel
theorem dX4_row_86 : decode cX4_row 86 = .ok (.getfield 123, 3) := by decide +kernel
theorem dX4_row_89 : decode cX4_row 89 = .ok (.iload_n 3, 1) := by decide +kernel
theorem dX4_row_90 : decode cX4_row 90 = .ok (.iaload, 1) := by decide +kernel
theorem dX4_row_91 : decode cX4_row 91 = .ok (.bipush 40, 2) := by decide +kernel
theorem dX4_row_93 : decode cX4_row 93 = .ok (.idiv, 1) := by decide +kernel
theorem dX4_row_94 : decode cX4_row 94 = .ok (.ireturn, 1) := by decide +kernel
theorem dX4_row_95 : decode cX4_row 95 = .ok (.aload_n 0, 1) := by decide +kernel
theorem dX4_row_96 : decode cX4_row 96 = .ok (.getfield 30, 3) := by decide +kernel
theorem dX4_row_99 : decode cX4_row 99 = .ok (.getfield 123, 3) := by decide +kernel
theorem dX4_row_102 : decode cX4_row 102 = .ok (.iload_n 3, 1) := by decide +kernel
theorem dX4_row_103 : decode cX4_row 103 = .ok (.iaload, 1) := by decide +kernel
theorem dX4_row_104 : decode cX4_row 104 = .ok (.bipush 40, 2) := by decide +kernel
theorem dX4_row_106 : decode cX4_row 106 = .ok (.irem, 1) := by decide +kernel
theorem dX4_row_107 : decode cX4_row 107 = .ok (.ireturn, 1) := by decide +kernel
theorem dX4_row_108 : decode cX4_row 108 = .ok (.aload_n 0, 1) := by decide +kernel
theorem dX4_row_109 : decode cX4_row 109 = .ok (.getfield 30, 3) := by decide +kernel
theorem dX4_row_112 : decode cX4_row 112 = .ok (.getfield 126, 3) := by decide +kernel
theorem dX4_row_115 : decode cX4_row 115 = .ok (.iload_n 3, 1) := by decide +kernel
theorem dX4_row_116 : decode cX4_row 116 = .ok (.iaload, 1) := by decide +kernel
theorem dX4_row_117 : decode cX4_row 117 = .ok (.bipush 40, 2) := by decide +kernel
theorem dX4_row_119 : decode cX4_row 119 = .ok (.idiv, 1) := by decide +kernel
theorem dX4_row_120 : decode cX4_row 120 = .ok (.ireturn, 1) := by decide +kernel
theorem dX4_row_121 : decode cX4_row 121 = .ok (.aload_n 0, 1) := by decide +kernel
theorem dX4_row_122 : decode cX4_row 122 = .ok (.getfield 30, 3) := by decide +kernel
theorem dX4_row_125 : decode cX4_row 125 = .ok (.getfield 126, 3) := by decide +kernel
theorem dX4_row_128 : decode cX4_row 128 = .ok (.iload_n 3, 1) := by decide +kernel
theorem dX4_row_129 : decode cX4_row 129 = .ok (.iaload, 1) := by decide +kernel
theorem dX4_row_130 : decode cX4_row 130 = .ok (.bipush 40, 2) := by decide +kernel
theorem dX4_row_132 : decode cX4_row 132 = .ok (.irem, 1) := by decide +kernel
theorem dX4_row_133 : decode cX4_row 133 = .ok (.ireturn, 1) := by decide +kernel
theorem dX4_row_134 : decode cX4_row 134 = .ok (.aload_n 0, 1) := by decide +kernel
theorem dX4_row_135 : decode cX4_row 135 = .ok (.getfield 30, 3) := by decide +kernel
theorem dX4_row_138 : decode cX4_row 138 = .ok (.iload_n 3, 1) := by decide +kernel
theorem dX4_row_139 : decode cX4_row 139 = .ok (.invokevirtual 129, 3) := by decide +kernel
theorem dX4_row_142 : decode cX4_row 142 = .ok (.ifCond .eq 7, 3) := by decide +kernel
theorem dX4_row_145 : decode cX4_row 145 = .ok (.iconst 1, 1) := by decide +kernel
theorem dX4_row_146 : decode cX4_row 146 = .ok (.goto 4, 3) := by decide +kernel
theorem dX4_row_149 : decode cX4_row 149 = .ok (.iconst 0, 1) := by decide +kernel
theorem dX4_row_150 : decode cX4_row 150 = .ok (.ireturn, 1) := by decide +kernel
theorem dX4_row_151 : decode cX4_row 151 = .ok (.aload_n 0, 1) := by decide +kernel
theorem dX4_row_152 : decode cX4_row 152 = .ok (.getfield 30, 3) := by decide +kernel
theorem dX4_row_155 : decode cX4_row 155 = .ok (.getfield 110, 3) := by decide +kernel
theorem dX4_row_158 : decode cX4_row 158 = .ok (.getfield 132, 3) := by decide +kernel
theorem dX4_row_161 : decode cX4_row 161 = .ok (.aload_n 0, 1) := by decide +kernel
theorem dX4_row_162 : decode cX4_row 162 = .ok (.getfield 30, 3) := by decide +kernel
theorem dX4_row_165 : decode cX4_row 165 = .ok (.getfield 126, 3) := by decide +kernel
theorem dX4_row_168 : decode cX4_row 168 = .ok (.iload_n 3, 1) := by decide +kernel
theorem dX4_row_169 : decode cX4_row 169 = .ok (.iaload, 1) := by decide +kernel
theorem dX4_row_170 : decode cX4_row 170 = .ok (.iaload, 1) := by decide +kernel
theorem dX4_row_171 : decode cX4_row 171 = .ok (.iconst 2, 1) := by decide +kernel
theorem dX4_row_172 : decode cX4_row 172 = .ok (.isub, 1) := by decide +kernel
theorem dX4_row_173 : decode cX4_row 173 = .ok (.ireturn, 1) := by decide +kernel
theorem dX4_row_174 : decode cX4_row 174 = .ok (.aload_n 0, 1) := by decide +kernel
theorem dX4_row_175 : decode cX4_row 175 = .ok (.getfield 30, 3) := by decide +kernel
theorem dX4_row_178 : decode cX4_row 178 = .ok (.getfield 135, 3) := by decide +kernel
theorem dX4_row_181 : decode cX4_row 181 = .ok (.iload_n 3, 1) := by decide +kernel
theorem dX4_row_182 : decode cX4_row 182 = .ok (.iaload, 1) := by decide +kernel
theorem dX4_row_183 : decode cX4_row 183 = .ok (.ireturn, 1) := by decide +kernel
theorem dX4_row_184 : decode cX4_row 184 = .ok (.aload_n 0, 1) := by decide +kernel
theorem dX4_row_185 : decode cX4_row 185 = .ok (.getfield 30, 3) := by decide +kernel
theorem dX4_row_188 : decode cX4_row 188 = .ok (.iload_n 3, 1) := by decide +kernel
theorem dX4_row_189 : decode cX4_row 189 = .ok (.invokevirtual 138, 3) := by decide +kernel
theorem dX4_row_192 : decode cX4_row 192 = .ok (.ireturn, 1) := by decide +kernel
theorem dX4_row_193 : decode cX4_row 193 = .ok (.aload_n 0, 1) := by decide +kernel
theorem dX4_row_194 : decode cX4_row 194 = .ok (.getfield 30, 3) := by decide +kernel
theorem dX4_row_197 : decode cX4_row 197 = .ok (.iload_n 3, 1) := by decide +kernel
theorem dX4_row_198 : decode cX4_row 198 = .ok (.invokevirtual 100, 3) := by decide +kernel
theorem dX4_row_201 : decode cX4_row 201 = .ok (.ireturn, 1) := by decide +kernel
theorem dX4_row_202 : decode cX4_row 202 = .ok (.bipush (-2), 2) := by decide +kernel
theorem dX4_row_204 : decode cX4_row 204 = .ok (.ireturn, 1) := by decide +kernel
theorem dX4_letter_0 : decode cX4_letter 0 = .ok (.aload_n 0, 1) := by decide +kernel
theorem dX4_letter_1 : decode cX4_letter 1 = .ok (.getfield 30, 3) := by decide +kernel
theorem dX4_letter_4 : decode cX4_letter 4 = .ok (.iload_n 1, 1) := by decide +kernel
theorem dX4_letter_5 : decode cX4_letter 5 = .ok (.invokevirtual 96, 3) := by decide +kernel
theorem dX4_letter_8 : decode cX4_letter 8 = .ok (.istore_n 3, 1) := by decide +kernel
theorem dX4_letter_9 : decode cX4_letter 9 = .ok (.iload_n 3, 1) := by decide +kernel
theorem dX4_letter_10 : decode cX4_letter 10 = .ok (.iconst (-1), 1) := by decide +kernel
theorem dX4_letter_11 : decode cX4_letter 11 = .ok (.if_icmp .eq 20, 3) := by decide +kernel
theorem dX4_letter_14 : decode cX4_letter 14 = .ok (.iload_n 2, 1) := by decide +kernel
theorem dX4_letter_15 : decode cX4_letter 15 = .ok (.ifCond .lt 16, 3) := by decide +kernel
theorem dX4_letter_18 : decode cX4_letter 18 = .ok (.iload_n 2, 1) := by decide +kernel
theorem dX4_letter_19 : decode cX4_letter 19 = .ok (.aload_n 0, 1) := by decide +kernel
theorem dX4_letter_20 : decode cX4_letter 20 = .ok (.getfield 30, 3) := by decide +kernel
theorem dX4_letter_23 : decode cX4_letter 23 = .ok (.getfield 99, 3) := by decide +kernel
theorem dX4_letter_26 : decode cX4_letter 26 = .ok (.iload_n 3, 1) := by decide +kernel
theorem dX4_letter_27 : decode cX4_letter 27 = .ok (.iaload, 1) := by decide +kernel
theorem dX4_letter_28 : decode cX4_letter 28 = .ok (.if_icmp .lt 5, 3) := by decide +kernel
theorem dX4_letter_31 : decode cX4_letter 31 = .ok (.iconst (-1), 1) := by decide +kernel
theorem dX4_letter_32 : decode cX4_letter 32 = .ok (.ireturn, 1) := by decide +kernel
theorem dX4_letter_33 : decode cX4_letter 33 = .ok (.aload_n 0, 1) := by decide +kernel
theorem dX4_letter_34 : decode cX4_letter 34 = .ok (.getfield 30, 3) := by decide +kernel
theorem dX4_letter_37 : decode cX4_letter 37 = .ok (.getfield 83, 3) := by decide +kernel
theorem dX4_letter_40 : decode cX4_letter 40 = .ok (.iload_n 3, 1) := by decide +kernel
theorem dX4_letter_41 : decode cX4_letter 41 = .ok (.aaload, 1) := by decide +kernel
theorem dX4_letter_42 : decode cX4_letter 42 = .ok (.iload_n 2, 1) := by decide +kernel
theorem dX4_letter_43 : decode cX4_letter 43 = .ok (.iaload, 1) := by decide +kernel
theorem dX4_letter_44 : decode cX4_letter 44 = .ok (.ireturn, 1) := by decide +kernel
theorem dX4_piece_0 : decode cX4_piece 0 = .ok (.aload_n 0, 1) := by decide +kernel
theorem dX4_piece_1 : decode cX4_piece 1 = .ok (.getfield 30, 3) := by decide +kernel
theorem dX4_piece_4 : decode cX4_piece 4 = .ok (.iload_n 1, 1) := by decide +kernel
theorem dX4_piece_5 : decode cX4_piece 5 = .ok (.invokevirtual 96, 3) := by decide +kernel
theorem dX4_piece_8 : decode cX4_piece 8 = .ok (.istore 4, 2) := by decide +kernel
theorem dX4_piece_10 : decode cX4_piece 10 = .ok (.iload 4, 2) := by decide +kernel
theorem dX4_piece_12 : decode cX4_piece 12 = .ok (.iconst (-1), 1) := by decide +kernel
theorem dX4_piece_13 : decode cX4_piece 13 = .ok (.if_icmp .eq 21, 3) := by decide +kernel
theorem dX4_piece_16 : decode cX4_piece 16 = .ok (.iload_n 2, 1) := by decide +kernel
theorem dX4_piece_17 : decode cX4_piece 17 = .ok (.ifCond .lt 17, 3) := by decide +kernel
theorem dX4_piece_20 : decode cX4_piece 20 = .ok (.iload_n 2, 1) := by decide +kernel
theorem dX4_piece_21 : decode cX4_piece 21 = .ok (.aload_n 0, 1) := by decide +kernel
theorem dX4_piece_22 : decode cX4_piece 22 = .ok (.getfield 30, 3) := by decide +kernel
theorem dX4_piece_25 : decode cX4_piece 25 = .ok (.getfield 135, 3) := by decide +kernel
theorem dX4_piece_28 : decode cX4_piece 28 = .ok (.iload 4, 2) := by decide +kernel
theorem dX4_piece_30 : decode cX4_piece 30 = .ok (.iaload, 1) := by decide +kernel
theorem dX4_piece_31 : decode cX4_piece 31 = .ok (.if_icmp .lt 5, 3) := by decide +kernel
theorem dX4_piece_34 : decode cX4_piece 34 = .ok (.iconst (-1), 1) := by decide +kernel
theorem dX4_piece_35 : decode cX4_piece 35 = .ok (.ireturn, 1) := by decide +kernel
theorem dX4_piece_36 : decode cX4_piece 36 = .ok (.aload_n 0, 1) := by decide +kernel
theorem dX4_piece_37 : decode cX4_piece 37 = .ok (.getfield 30, 3) := by decide +kernel
theorem dX4_piece_40 : decode cX4_piece 40 = .ok (.getfield 141, 3) := by decide +kernel
theorem dX4_piece_43 : decode cX4_piece 43 = .ok (.iload 4, 2) := by decide +kernel
theorem dX4_piece_45 : decode cX4_piece 45 = .ok (.aaload, 1) := by decide +kernel
theorem dX4_piece_46 : decode cX4_piece 46 = .ok (.iload_n 2, 1) := by decide +kernel
theorem dX4_piece_47 : decode cX4_piece 47 = .ok (.iaload, 1) := by decide +kernel
theorem dX4_piece_48 : decode cX4_piece 48 = .ok (.istore 5, 2) := by decide +kernel
theorem dX4_piece_50 : decode cX4_piece 50 = .ok (.iload_n 3, 1) := by decide +kernel
theorem dX4_piece_51 : decode cX4_piece 51 = .ok (.tableswitch 53 0 2 #[25, 31, 37], 25) := by decide +kernel
theorem dX4_piece_76 : decode cX4_piece 76 = .ok (.iload 5, 2) := by decide +kernel
theorem dX4_piece_78 : decode cX4_piece 78 = .ok (.bipush 40, 2) := by decide +kernel
theorem dX4_piece_80 : decode cX4_piece 80 = .ok (.idiv, 1) := by decide +kernel
theorem dX4_piece_81 : decode cX4_piece 81 = .ok (.ireturn, 1) := by decide +kernel
theorem dX4_piece_82 : decode cX4_piece 82 = .ok (.iload 5, 2) := by decide +kernel
theorem dX4_piece_84 : decode cX4_piece 84 = .ok (.bipush 40, 2) := by decide +kernel
theorem dX4_piece_86 : decode cX4_piece 86 = .ok (.irem, 1) := by decide +kernel
theorem dX4_piece_87 : decode cX4_piece 87 = .ok (.ireturn, 1) := by decide +kernel
theorem dX4_piece_88 : decode cX4_piece 88 = .ok (.aload_n 0, 1) := by decide +kernel
theorem dX4_piece_89 : decode cX4_piece 89 = .ok (.getfield 30, 3) := by decide +kernel
theorem dX4_piece_92 : decode cX4_piece 92 = .ok (.getfield 110, 3) := by decide +kernel
theorem dX4_piece_95 : decode cX4_piece 95 = .ok (.getfield 132, 3) := by decide +kernel
theorem dX4_piece_98 : decode cX4_piece 98 = .ok (.iload 5, 2) := by decide +kernel
theorem dX4_piece_100 : decode cX4_piece 100 = .ok (.iaload, 1) := by decide +kernel
theorem dX4_piece_101 : decode cX4_piece 101 = .ok (.iconst 1, 1) := by decide +kernel
theorem dX4_piece_102 : decode cX4_piece 102 = .ok (.isub, 1) := by decide +kernel
theorem dX4_piece_103 : decode cX4_piece 103 = .ok (.ireturn, 1) := by decide +kernel
theorem dX4_piece_104 : decode cX4_piece 104 = .ok (.bipush (-2), 2) := by decide +kernel
theorem dX4_piece_106 : decode cX4_piece 106 = .ok (.ireturn, 1) := by decide +kernel
theorem dX4_page_0 : decode cX4_page 0 = .ok (.iload_n 1, 1) := by decide +kernel
theorem dX4_page_1 : decode cX4_page 1 = .ok (.ifCond .lt 9, 3) := by decide +kernel
theorem dX4_page_4 : decode cX4_page 4 = .ok (.iload_n 1, 1) := by decide +kernel
theorem dX4_page_5 : decode cX4_page 5 = .ok (.bipush 10, 2) := by decide +kernel
theorem dX4_page_7 : decode cX4_page 7 = .ok (.if_icmp .lt 5, 3) := by decide +kernel
theorem dX4_page_10 : decode cX4_page 10 = .ok (.iconst (-1), 1) := by decide +kernel
theorem dX4_page_11 : decode cX4_page 11 = .ok (.ireturn, 1) := by decide +kernel
theorem dX4_page_12 : decode cX4_page 12 = .ok (.iload_n 2, 1) := by decide +kernel
theorem dX4_page_13 : decode cX4_page 13 = .ok (.tableswitch 116 0 5 #[39, 52, 64, 77, 90, 103], 39) := by decide +kernel
theorem dX4_page_52 : decode cX4_page 52 = .ok (.aload_n 0, 1) := by decide +kernel
theorem dX4_page_53 : decode cX4_page 53 = .ok (.getfield 30, 3) := by decide +kernel
theorem dX4_page_56 : decode cX4_page 56 = .ok (.getfield 110, 3) := by decide +kernel
theorem dX4_page_59 : decode cX4_page 59 = .ok (.getfield 144, 3) := by decide +kernel
theorem dX4_page_62 : decode cX4_page 62 = .ok (.iload_n 1, 1) := by decide +kernel
theorem dX4_page_63 : decode cX4_page 63 = .ok (.iaload, 1) := by decide +kernel
theorem dX4_page_64 : decode cX4_page 64 = .ok (.ireturn, 1) := by decide +kernel
theorem dX4_page_65 : decode cX4_page 65 = .ok (.aload_n 0, 1) := by decide +kernel
theorem dX4_page_66 : decode cX4_page 66 = .ok (.getfield 30, 3) := by decide +kernel
theorem dX4_page_69 : decode cX4_page 69 = .ok (.getfield 110, 3) := by decide +kernel
theorem dX4_page_72 : decode cX4_page 72 = .ok (.iload_n 1, 1) := by decide +kernel
theorem dX4_page_73 : decode cX4_page 73 = .ok (.invokevirtual 147, 3) := by decide +kernel
theorem dX4_page_76 : decode cX4_page 76 = .ok (.ireturn, 1) := by decide +kernel
theorem dX4_page_77 : decode cX4_page 77 = .ok (.aload_n 0, 1) := by decide +kernel
theorem dX4_page_78 : decode cX4_page 78 = .ok (.getfield 30, 3) := by decide +kernel
theorem dX4_page_81 : decode cX4_page 81 = .ok (.getfield 110, 3) := by decide +kernel
theorem dX4_page_84 : decode cX4_page 84 = .ok (.iload_n 1, 1) := by decide +kernel
theorem dX4_page_85 : decode cX4_page 85 = .ok (.iconst 1, 1) := by decide +kernel
theorem dX4_page_86 : decode cX4_page 86 = .ok (.invokevirtual 150, 3) := by decide +kernel
theorem dX4_page_89 : decode cX4_page 89 = .ok (.ireturn, 1) := by decide +kernel
theorem dX4_page_90 : decode cX4_page 90 = .ok (.aload_n 0, 1) := by decide +kernel
theorem dX4_page_91 : decode cX4_page 91 = .ok (.getfield 30, 3) := by decide +kernel
theorem dX4_page_94 : decode cX4_page 94 = .ok (.getfield 110, 3) := by decide +kernel
theorem dX4_page_97 : decode cX4_page 97 = .ok (.iload_n 1, 1) := by decide +kernel
theorem dX4_page_98 : decode cX4_page 98 = .ok (.iconst 2, 1) := by decide +kernel
theorem dX4_page_99 : decode cX4_page 99 = .ok (.invokevirtual 150, 3) := by decide +kernel
theorem dX4_page_102 : decode cX4_page 102 = .ok (.ireturn, 1) := by decide +kernel
theorem dX4_page_103 : decode cX4_page 103 = .ok (.aload_n 0, 1) := by decide +kernel
theorem dX4_page_104 : decode cX4_page 104 = .ok (.getfield 30, 3) := by decide +kernel
theorem dX4_page_107 : decode cX4_page 107 = .ok (.getfield 110, 3) := by decide +kernel
theorem dX4_page_110 : decode cX4_page 110 = .ok (.iload_n 1, 1) := by decide +kernel
theorem dX4_page_111 : decode cX4_page 111 = .ok (.iconst 3, 1) := by decide +kernel
theorem dX4_page_112 : decode cX4_page 112 = .ok (.invokevirtual 150, 3) := by decide +kernel
theorem dX4_page_115 : decode cX4_page 115 = .ok (.ireturn, 1) := by decide +kernel
theorem dX4_page_116 : decode cX4_page 116 = .ok (.aload_n 0, 1) := by decide +kernel
theorem dX4_page_117 : decode cX4_page 117 = .ok (.getfield 30, 3) := by decide +kernel
theorem dX4_page_120 : decode cX4_page 120 = .ok (.getfield 110, 3) := by decide +kernel
theorem dX4_page_123 : decode cX4_page 123 = .ok (.iload_n 1, 1) := by decide +kernel
theorem dX4_page_124 : decode cX4_page 124 = .ok (.iconst 0, 1) := by decide +kernel
theorem dX4_page_125 : decode cX4_page 125 = .ok (.invokevirtual 150, 3) := by decide +kernel
theorem dX4_page_128 : decode cX4_page 128 = .ok (.ireturn, 1) := by decide +kernel
theorem dX4_page_129 : decode cX4_page 129 = .ok (.bipush (-2), 2) := by decide +kernel
theorem dX4_page_131 : decode cX4_page 131 = .ok (.ireturn, 1) := by decide +kernel
theorem dX4_slot_0 : decode cX4_slot 0 = .ok (.iload_n 1, 1) := by decide +kernel
theorem dX4_slot_1 : decode cX4_slot 1 = .ok (.ifCond .lt 28, 3) := by decide +kernel
theorem dX4_slot_4 : decode cX4_slot 4 = .ok (.iload_n 1, 1) := by decide +kernel
theorem dX4_slot_5 : decode cX4_slot 5 = .ok (.bipush 10, 2) := by decide +kernel
theorem dX4_slot_7 : decode cX4_slot 7 = .ok (.if_icmp .ge 22, 3) := by decide +kernel
theorem dX4_slot_10 : decode cX4_slot 10 = .ok (.iload_n 2, 1) := by decide +kernel
theorem dX4_slot_11 : decode cX4_slot 11 = .ok (.ifCond .lt 18, 3) := by decide +kernel
theorem dX4_slot_14 : decode cX4_slot 14 = .ok (.iload_n 2, 1) := by decide +kernel
theorem dX4_slot_15 : decode cX4_slot 15 = .ok (.aload_n 0, 1) := by decide +kernel
theorem dX4_slot_16 : decode cX4_slot 16 = .ok (.getfield 30, 3) := by decide +kernel
theorem dX4_slot_19 : decode cX4_slot 19 = .ok (.getfield 110, 3) := by decide +kernel
theorem dX4_slot_22 : decode cX4_slot 22 = .ok (.iload_n 1, 1) := by decide +kernel
theorem dX4_slot_23 : decode cX4_slot 23 = .ok (.invokevirtual 147, 3) := by decide +kernel
theorem dX4_slot_26 : decode cX4_slot 26 = .ok (.if_icmp .lt 5, 3) := by decide +kernel
theorem dX4_slot_29 : decode cX4_slot 29 = .ok (.iconst (-1), 1) := by decide +kernel
theorem dX4_slot_30 : decode cX4_slot 30 = .ok (.ireturn, 1) := by decide +kernel
theorem dX4_slot_31 : decode cX4_slot 31 = .ok (.iload_n 1, 1) := by decide +kernel
theorem dX4_slot_32 : decode cX4_slot 32 = .ok (.bipush 40, 2) := by decide +kernel
theorem dX4_slot_34 : decode cX4_slot 34 = .ok (.imul, 1) := by decide +kernel
theorem dX4_slot_35 : decode cX4_slot 35 = .ok (.iload_n 2, 1) := by decide +kernel
theorem dX4_slot_36 : decode cX4_slot 36 = .ok (.iadd, 1) := by decide +kernel
theorem dX4_slot_37 : decode cX4_slot 37 = .ok (.istore 4, 2) := by decide +kernel
theorem dX4_slot_39 : decode cX4_slot 39 = .ok (.iload_n 3, 1) := by decide +kernel
theorem dX4_slot_40 : decode cX4_slot 40 = .ok (.tableswitch 91 0 2 #[28, 42, 77], 28) := by decide +kernel
theorem dX4_slot_68 : decode cX4_slot 68 = .ok (.aload_n 0, 1) := by decide +kernel
theorem dX4_slot_69 : decode cX4_slot 69 = .ok (.getfield 30, 3) := by decide +kernel
theorem dX4_slot_72 : decode cX4_slot 72 = .ok (.getfield 110, 3) := by decide +kernel
theorem dX4_slot_75 : decode cX4_slot 75 = .ok (.getfield 153, 3) := by decide +kernel
theorem dX4_slot_78 : decode cX4_slot 78 = .ok (.iload 4, 2) := by decide +kernel
theorem dX4_slot_80 : decode cX4_slot 80 = .ok (.iaload, 1) := by decide +kernel
theorem dX4_slot_81 : decode cX4_slot 81 = .ok (.ireturn, 1) := by decide +kernel
theorem dX4_slot_82 : decode cX4_slot 82 = .ok (.aload_n 0, 1) := by decide +kernel
theorem dX4_slot_83 : decode cX4_slot 83 = .ok (.getfield 30, 3) := by decide +kernel
theorem dX4_slot_86 : decode cX4_slot 86 = .ok (.getfield 110, 3) := by decide +kernel
theorem dX4_slot_89 : decode cX4_slot 89 = .ok (.getfield 153, 3) := by decide +kernel
theorem dX4_slot_92 : decode cX4_slot 92 = .ok (.iload 4, 2) := by decide +kernel
theorem dX4_slot_94 : decode cX4_slot 94 = .ok (.iaload, 1) := by decide +kernel
theorem dX4_slot_95 : decode cX4_slot 95 = .ok (.ifCond .ne 8, 3) := by decide +kernel
theorem dX4_slot_98 : decode cX4_slot 98 = .ok (.bipush (-6), 2) := by decide +kernel
theorem dX4_slot_100 : decode cX4_slot 100 = .ok (.goto 16, 3) := by decide +kernel
theorem dX4_slot_103 : decode cX4_slot 103 = .ok (.aload_n 0, 1) := by decide +kernel
theorem dX4_slot_104 : decode cX4_slot 104 = .ok (.getfield 30, 3) := by decide +kernel
theorem dX4_slot_107 : decode cX4_slot 107 = .ok (.getfield 110, 3) := by decide +kernel
theorem dX4_slot_110 : decode cX4_slot 110 = .ok (.getfield 156, 3) := by decide +kernel
theorem dX4_slot_113 : decode cX4_slot 113 = .ok (.iload 4, 2) := by decide +kernel
theorem dX4_slot_115 : decode cX4_slot 115 = .ok (.iaload, 1) := by decide +kernel
theorem dX4_slot_116 : decode cX4_slot 116 = .ok (.ireturn, 1) := by decide +kernel
theorem dX4_slot_117 : decode cX4_slot 117 = .ok (.aload_n 0, 1) := by decide +kernel
theorem dX4_slot_118 : decode cX4_slot 118 = .ok (.getfield 30, 3) := by decide +kernel
theorem dX4_slot_121 : decode cX4_slot 121 = .ok (.getfield 110, 3) := by decide +kernel
theorem dX4_slot_124 : decode cX4_slot 124 = .ok (.getfield 132, 3) := by decide +kernel
theorem dX4_slot_127 : decode cX4_slot 127 = .ok (.iload 4, 2) := by decide +kernel
theorem dX4_slot_129 : decode cX4_slot 129 = .ok (.iaload, 1) := by decide +kernel
theorem dX4_slot_130 : decode cX4_slot 130 = .ok (.ireturn, 1) := by decide +kernel
theorem dX4_slot_131 : decode cX4_slot 131 = .ok (.bipush (-2), 2) := by decide +kernel
theorem dX4_slot_133 : decode cX4_slot 133 = .ok (.ireturn, 1) := by decide +kernel
theorem dX4_count_0 : decode cX4_count 0 = .ok (.iload_n 1, 1) := by decide +kernel
theorem dX4_count_1 : decode cX4_count 1 = .ok (.tableswitch 188 0 11 #[63, 71, 82, 94, 106, 117, 125, 133, 156, 164, 172, 180], 63) := by decide +kernel
theorem dX4_count_64 : decode cX4_count 64 = .ok (.aload_n 0, 1) := by decide +kernel
theorem dX4_count_65 : decode cX4_count 65 = .ok (.getfield 30, 3) := by decide +kernel
theorem dX4_count_68 : decode cX4_count 68 = .ok (.getfield 159, 3) := by decide +kernel
theorem dX4_count_71 : decode cX4_count 71 = .ok (.ireturn, 1) := by decide +kernel
theorem dX4_count_72 : decode cX4_count 72 = .ok (.aload_n 0, 1) := by decide +kernel
theorem dX4_count_73 : decode cX4_count 73 = .ok (.getfield 30, 3) := by decide +kernel
theorem dX4_count_76 : decode cX4_count 76 = .ok (.getfield 110, 3) := by decide +kernel
theorem dX4_count_79 : decode cX4_count 79 = .ok (.invokevirtual 114, 3) := by decide +kernel
theorem dX4_count_82 : decode cX4_count 82 = .ok (.ireturn, 1) := by decide +kernel
theorem dX4_count_83 : decode cX4_count 83 = .ok (.aload_n 0, 1) := by decide +kernel
theorem dX4_count_84 : decode cX4_count 84 = .ok (.getfield 30, 3) := by decide +kernel
theorem dX4_count_87 : decode cX4_count 87 = .ok (.getfield 110, 3) := by decide +kernel
theorem dX4_count_90 : decode cX4_count 90 = .ok (.iconst 3, 1) := by decide +kernel
theorem dX4_count_91 : decode cX4_count 91 = .ok (.invokevirtual 160, 3) := by decide +kernel
theorem dX4_count_94 : decode cX4_count 94 = .ok (.ireturn, 1) := by decide +kernel
theorem dX4_count_95 : decode cX4_count 95 = .ok (.aload_n 0, 1) := by decide +kernel
theorem dX4_count_96 : decode cX4_count 96 = .ok (.getfield 30, 3) := by decide +kernel
theorem dX4_count_99 : decode cX4_count 99 = .ok (.getfield 110, 3) := by decide +kernel
theorem dX4_count_102 : decode cX4_count 102 = .ok (.iconst 2, 1) := by decide +kernel
theorem dX4_count_103 : decode cX4_count 103 = .ok (.invokevirtual 160, 3) := by decide +kernel
theorem dX4_count_106 : decode cX4_count 106 = .ok (.ireturn, 1) := by decide +kernel
theorem dX4_count_107 : decode cX4_count 107 = .ok (.aload_n 0, 1) := by decide +kernel
theorem dX4_count_108 : decode cX4_count 108 = .ok (.getfield 30, 3) := by decide +kernel
theorem dX4_count_111 : decode cX4_count 111 = .ok (.getfield 110, 3) := by decide +kernel
theorem dX4_count_114 : decode cX4_count 114 = .ok (.invokevirtual 163, 3) := by decide +kernel
theorem dX4_count_117 : decode cX4_count 117 = .ok (.ireturn, 1) := by decide +kernel
theorem dX4_count_118 : decode cX4_count 118 = .ok (.aload_n 0, 1) := by decide +kernel
theorem dX4_count_119 : decode cX4_count 119 = .ok (.getfield 30, 3) := by decide +kernel
theorem dX4_count_122 : decode cX4_count 122 = .ok (.invokevirtual 166, 3) := by decide +kernel
theorem dX4_count_125 : decode cX4_count 125 = .ok (.ireturn, 1) := by decide +kernel
theorem dX4_count_126 : decode cX4_count 126 = .ok (.aload_n 0, 1) := by decide +kernel
theorem dX4_count_127 : decode cX4_count 127 = .ok (.getfield 30, 3) := by decide +kernel
theorem dX4_count_130 : decode cX4_count 130 = .ok (.invokevirtual 169, 3) := by decide +kernel
theorem dX4_count_133 : decode cX4_count 133 = .ok (.ireturn, 1) := by decide +kernel
theorem dX4_count_134 : decode cX4_count 134 = .ok (.aload_n 0, 1) := by decide +kernel
theorem dX4_count_135 : decode cX4_count 135 = .ok (.getfield 30, 3) := by decide +kernel
theorem dX4_count_138 : decode cX4_count 138 = .ok (.getfield 159, 3) := by decide +kernel
theorem dX4_count_141 : decode cX4_count 141 = .ok (.ifCond .ne 8, 3) := by decide +kernel
theorem dX4_count_144 : decode cX4_count 144 = .ok (.bipush (-6), 2) := by decide +kernel
theorem dX4_count_146 : decode cX4_count 146 = .ok (.goto 10, 3) := by decide +kernel
theorem dX4_count_149 : decode cX4_count 149 = .ok (.aload_n 0, 1) := by decide +kernel
theorem dX4_count_150 : decode cX4_count 150 = .ok (.getfield 30, 3) := by decide +kernel
theorem dX4_count_153 : decode cX4_count 153 = .ok (.invokevirtual 172, 3) := by decide +kernel
theorem dX4_count_156 : decode cX4_count 156 = .ok (.ireturn, 1) := by decide +kernel
theorem dX4_count_157 : decode cX4_count 157 = .ok (.aload_n 0, 1) := by decide +kernel
theorem dX4_count_158 : decode cX4_count 158 = .ok (.getfield 30, 3) := by decide +kernel
theorem dX4_count_161 : decode cX4_count 161 = .ok (.getfield 48, 3) := by decide +kernel
theorem dX4_count_164 : decode cX4_count 164 = .ok (.ireturn, 1) := by decide +kernel
theorem dX4_count_165 : decode cX4_count 165 = .ok (.aload_n 0, 1) := by decide +kernel
theorem dX4_count_166 : decode cX4_count 166 = .ok (.getfield 30, 3) := by decide +kernel
theorem dX4_count_169 : decode cX4_count 169 = .ok (.getfield 52, 3) := by decide +kernel
theorem dX4_count_172 : decode cX4_count 172 = .ok (.ireturn, 1) := by decide +kernel
theorem dX4_count_173 : decode cX4_count 173 = .ok (.aload_n 0, 1) := by decide +kernel
theorem dX4_count_174 : decode cX4_count 174 = .ok (.getfield 12, 3) := by decide +kernel
theorem dX4_count_177 : decode cX4_count 177 = .ok (.getfield 66, 3) := by decide +kernel
theorem dX4_count_180 : decode cX4_count 180 = .ok (.ireturn, 1) := by decide +kernel
theorem dX4_count_181 : decode cX4_count 181 = .ok (.aload_n 0, 1) := by decide +kernel
theorem dX4_count_182 : decode cX4_count 182 = .ok (.getfield 19, 3) := by decide +kernel
theorem dX4_count_185 : decode cX4_count 185 = .ok (.getfield 175, 3) := by decide +kernel
theorem dX4_count_188 : decode cX4_count 188 = .ok (.ireturn, 1) := by decide +kernel
theorem dX4_count_189 : decode cX4_count 189 = .ok (.bipush (-2), 2) := by decide +kernel
theorem dX4_count_191 : decode cX4_count 191 = .ok (.ireturn, 1) := by decide +kernel
theorem dX4_key_0 : decode cX4_key 0 = .ok (.iload_n 1, 1) := by decide +kernel
theorem dX4_key_1 : decode cX4_key 1 = .ok (.ifCond .lt 14, 3) := by decide +kernel
theorem dX4_key_4 : decode cX4_key 4 = .ok (.iload_n 1, 1) := by decide +kernel
theorem dX4_key_5 : decode cX4_key 5 = .ok (.aload_n 0, 1) := by decide +kernel
theorem dX4_key_6 : decode cX4_key 6 = .ok (.getfield 30, 3) := by decide +kernel
theorem dX4_key_9 : decode cX4_key 9 = .ok (.getfield 159, 3) := by decide +kernel
theorem dX4_key_12 : decode cX4_key 12 = .ok (.if_icmp .lt 5, 3) := by decide +kernel
theorem dX4_key_15 : decode cX4_key 15 = .ok (.iconst (-1), 1) := by decide +kernel
theorem dX4_key_16 : decode cX4_key 16 = .ok (.ireturn, 1) := by decide +kernel
theorem dX4_key_17 : decode cX4_key 17 = .ok (.iconst 0, 1) := by decide +kernel
theorem dX4_key_18 : decode cX4_key 18 = .ok (.istore_n 2, 1) := by decide +kernel
theorem dX4_key_19 : decode cX4_key 19 = .ok (.iconst 0, 1) := by decide +kernel
theorem dX4_key_20 : decode cX4_key 20 = .ok (.istore_n 3, 1) := by decide +kernel
theorem dX4_key_21 : decode cX4_key 21 = .ok (.iload_n 3, 1) := by decide +kernel
theorem dX4_key_22 : decode cX4_key 22 = .ok (.bipush 100, 2) := by decide +kernel
theorem dX4_key_24 : decode cX4_key 24 = .ok (.if_icmp .ge 31, 3) := by decide +kernel
theorem dX4_key_27 : decode cX4_key 27 = .ok (.aload_n 0, 1) := by decide +kernel
theorem dX4_key_28 : decode cX4_key 28 = .ok (.getfield 30, 3) := by decide +kernel
theorem dX4_key_31 : decode cX4_key 31 = .ok (.iload_n 3, 1) := by decide +kernel
theorem dX4_key_32 : decode cX4_key 32 = .ok (.invokevirtual 96, 3) := by decide +kernel
theorem dX4_key_35 : decode cX4_key 35 = .ok (.iconst (-1), 1) := by decide +kernel
theorem dX4_key_36 : decode cX4_key 36 = .ok (.if_icmp .eq 13, 3) := by decide +kernel
theorem dX4_key_39 : decode cX4_key 39 = .ok (.iload_n 2, 1) := by decide +kernel
theorem dX4_key_40 : decode cX4_key 40 = .ok (.iload_n 1, 1) := by decide +kernel
theorem dX4_key_41 : decode cX4_key 41 = .ok (.if_icmp .ne 5, 3) := by decide +kernel
theorem dX4_key_44 : decode cX4_key 44 = .ok (.iload_n 3, 1) := by decide +kernel
theorem dX4_key_45 : decode cX4_key 45 = .ok (.ireturn, 1) := by decide +kernel
theorem dX4_key_46 : decode cX4_key 46 = .ok (.iinc 2 1, 3) := by decide +kernel
theorem dX4_key_49 : decode cX4_key 49 = .ok (.iinc 3 1, 3) := by decide +kernel
theorem dX4_key_52 : decode cX4_key 52 = .ok (.goto (-31), 3) := by decide +kernel
theorem dX4_key_55 : decode cX4_key 55 = .ok (.iconst (-1), 1) := by decide +kernel
theorem dX4_key_56 : decode cX4_key 56 = .ok (.ireturn, 1) := by decide +kernel
theorem dX4_ifPacked_0 : decode cX4_ifPacked 0 = .ok (.iload_n 1, 1) := by decide +kernel
theorem dX4_ifPacked_1 : decode cX4_ifPacked 1 = .ok (.ifCond .lt 18, 3) := by decide +kernel
theorem dX4_ifPacked_4 : decode cX4_ifPacked 4 = .ok (.iload_n 1, 1) := by decide +kernel
theorem dX4_ifPacked_5 : decode cX4_ifPacked 5 = .ok (.bipush 16, 2) := by decide +kernel
theorem dX4_ifPacked_7 : decode cX4_ifPacked 7 = .ok (.if_icmp .gt 12, 3) := by decide +kernel
theorem dX4_ifPacked_10 : decode cX4_ifPacked 10 = .ok (.iload_n 2, 1) := by decide +kernel
theorem dX4_ifPacked_11 : decode cX4_ifPacked 11 = .ok (.ifCond .lt 8, 3) := by decide +kernel
theorem dX4_ifPacked_14 : decode cX4_ifPacked 14 = .ok (.iload_n 2, 1) := by decide +kernel
theorem dX4_ifPacked_15 : decode cX4_ifPacked 15 = .ok (.iconst 2, 1) := by decide +kernel
theorem dX4_ifPacked_16 : decode cX4_ifPacked 16 = .ok (.if_icmp .le 6, 3) := by decide +kernel
theorem dX4_ifPacked_19 : decode cX4_ifPacked 19 = .ok (.bipush (-2), 2) := by decide +kernel
theorem dX4_ifPacked_21 : decode cX4_ifPacked 21 = .ok (.ireturn, 1) := by decide +kernel
theorem dX4_ifPacked_22 : decode cX4_ifPacked 22 = .ok (.aload_n 0, 1) := by decide +kernel
theorem dX4_ifPacked_23 : decode cX4_ifPacked 23 = .ok (.iload_n 1, 1) := by decide +kernel
theorem dX4_ifPacked_24 : decode cX4_ifPacked 24 = .ok (.invokevirtual 107, 3) := by decide +kernel
theorem dX4_ifPacked_27 : decode cX4_ifPacked 27 = .ok (.ifCond .ne 6, 3) := by decide +kernel
theorem dX4_ifPacked_30 : decode cX4_ifPacked 30 = .ok (.bipush (-5), 2) := by decide +kernel
theorem dX4_ifPacked_32 : decode cX4_ifPacked 32 = .ok (.ireturn, 1) := by decide +kernel
theorem dX4_ifPacked_33 : decode cX4_ifPacked 33 = .ok (.iload_n 2, 1) := by decide +kernel
theorem dX4_ifPacked_34 : decode cX4_ifPacked 34 = .ok (.ifCond .ne 11, 3) := by decide +kernel
theorem dX4_ifPacked_37 : decode cX4_ifPacked 37 = .ok (.aload_n 0, 1) := by decide +kernel
theorem dX4_ifPacked_38 : decode cX4_ifPacked 38 = .ok (.getfield 34, 3) := by decide +kernel
theorem dX4_ifPacked_41 : decode cX4_ifPacked 41 = .ok (.invokevirtual 166, 3) := by decide +kernel
theorem dX4_ifPacked_44 : decode cX4_ifPacked 44 = .ok (.ireturn, 1) := by decide +kernel
theorem dX4_ifPacked_45 : decode cX4_ifPacked 45 = .ok (.iload_n 2, 1) := by decide +kernel
theorem dX4_ifPacked_46 : decode cX4_ifPacked 46 = .ok (.iconst 1, 1) := by decide +kernel
theorem dX4_ifPacked_47 : decode cX4_ifPacked 47 = .ok (.if_icmp .ne 16, 3) := by decide +kernel
theorem dX4_ifPacked_50 : decode cX4_ifPacked 50 = .ok (.aload_n 0, 1) := by decide +kernel
theorem dX4_ifPacked_51 : decode cX4_ifPacked 51 = .ok (.getfield 34, 3) := by decide +kernel
theorem dX4_ifPacked_54 : decode cX4_ifPacked 54 = .ok (.getfield 110, 3) := by decide +kernel
theorem dX4_ifPacked_57 : decode cX4_ifPacked 57 = .ok (.invokevirtual 114, 3) := by decide +kernel
theorem dX4_ifPacked_60 : decode cX4_ifPacked 60 = .ok (.goto 14, 3) := by decide +kernel
theorem dX4_ifPacked_63 : decode cX4_ifPacked 63 = .ok (.aload_n 0, 1) := by decide +kernel
theorem dX4_ifPacked_64 : decode cX4_ifPacked 64 = .ok (.getfield 34, 3) := by decide +kernel
theorem dX4_ifPacked_67 : decode cX4_ifPacked 67 = .ok (.getfield 110, 3) := by decide +kernel
theorem dX4_ifPacked_70 : decode cX4_ifPacked 70 = .ok (.iconst 2, 1) := by decide +kernel
theorem dX4_ifPacked_71 : decode cX4_ifPacked 71 = .ok (.invokevirtual 160, 3) := by decide +kernel
theorem dX4_ifPacked_74 : decode cX4_ifPacked 74 = .ok (.ireturn, 1) := by decide +kernel
theorem dX4_bestHead_0 : decode cX4_bestHead 0 = .ok (.aload_n 0, 1) := by decide +kernel
theorem dX4_bestHead_1 : decode cX4_bestHead 1 = .ok (.getfield 30, 3) := by decide +kernel
theorem dX4_bestHead_4 : decode cX4_bestHead 4 = .ok (.getfield 159, 3) := by decide +kernel
theorem dX4_bestHead_7 : decode cX4_bestHead 7 = .ok (.ifCond .ne 6, 3) := by decide +kernel
theorem dX4_bestHead_10 : decode cX4_bestHead 10 = .ok (.bipush (-6), 2) := by decide +kernel
theorem dX4_bestHead_12 : decode cX4_bestHead 12 = .ok (.ireturn, 1) := by decide +kernel
theorem dX4_bestHead_13 : decode cX4_bestHead 13 = .ok (.bipush (-6), 2) := by decide +kernel
theorem dX4_bestHead_15 : decode cX4_bestHead 15 = .ok (.istore_n 1, 1) := by decide +kernel
theorem dX4_bestHead_16 : decode cX4_bestHead 16 = .ok (.iconst 0, 1) := by decide +kernel
theorem dX4_bestHead_17 : decode cX4_bestHead 17 = .ok (.istore_n 2, 1) := by decide +kernel
theorem dX4_bestHead_18 : decode cX4_bestHead 18 = .ok (.iconst 0, 1) := by decide +kernel
theorem dX4_bestHead_19 : decode cX4_bestHead 19 = .ok (.istore_n 3, 1) := by decide +kernel
theorem dX4_bestHead_20 : decode cX4_bestHead 20 = .ok (.iload_n 3, 1) := by decide +kernel
theorem dX4_bestHead_21 : decode cX4_bestHead 21 = .ok (.bipush 16, 2) := by decide +kernel
theorem dX4_bestHead_23 : decode cX4_bestHead 23 = .ok (.if_icmp .gt 43, 3) := by decide +kernel
theorem dX4_bestHead_26 : decode cX4_bestHead 26 = .ok (.aload_n 0, 1) := by decide +kernel
theorem dX4_bestHead_27 : decode cX4_bestHead 27 = .ok (.iload_n 3, 1) := by decide +kernel
theorem dX4_bestHead_28 : decode cX4_bestHead 28 = .ok (.invokevirtual 107, 3) := by decide +kernel
theorem dX4_bestHead_31 : decode cX4_bestHead 31 = .ok (.ifCond .eq 29, 3) := by decide +kernel
theorem dX4_bestHead_34 : decode cX4_bestHead 34 = .ok (.aload_n 0, 1) := by decide +kernel
theorem dX4_bestHead_35 : decode cX4_bestHead 35 = .ok (.getfield 34, 3) := by decide +kernel
theorem dX4_bestHead_38 : decode cX4_bestHead 38 = .ok (.invokevirtual 166, 3) := by decide +kernel
theorem dX4_bestHead_41 : decode cX4_bestHead 41 = .ok (.istore 4, 2) := by decide +kernel
theorem dX4_bestHead_43 : decode cX4_bestHead 43 = .ok (.iload_n 1, 1) := by decide +kernel
theorem dX4_bestHead_44 : decode cX4_bestHead 44 = .ok (.bipush (-6), 2) := by decide +kernel
theorem dX4_bestHead_46 : decode cX4_bestHead 46 = .ok (.if_icmp .eq 9, 3) := by decide +kernel
theorem dX4_bestHead_49 : decode cX4_bestHead 49 = .ok (.iload 4, 2) := by decide +kernel
theorem dX4_bestHead_51 : decode cX4_bestHead 51 = .ok (.iload_n 2, 1) := by decide +kernel
theorem dX4_bestHead_52 : decode cX4_bestHead 52 = .ok (.if_icmp .ge 8, 3) := by decide +kernel
theorem dX4_bestHead_55 : decode cX4_bestHead 55 = .ok (.iload_n 3, 1) := by decide +kernel
theorem dX4_bestHead_56 : decode cX4_bestHead 56 = .ok (.istore_n 1, 1) := by decide +kernel
theorem dX4_bestHead_57 : decode cX4_bestHead 57 = .ok (.iload 4, 2) := by decide +kernel
theorem dX4_bestHead_59 : decode cX4_bestHead 59 = .ok (.istore_n 2, 1) := by decide +kernel
theorem dX4_bestHead_60 : decode cX4_bestHead 60 = .ok (.iinc 3 2, 3) := by decide +kernel
theorem dX4_bestHead_63 : decode cX4_bestHead 63 = .ok (.goto (-43), 3) := by decide +kernel
theorem dX4_bestHead_66 : decode cX4_bestHead 66 = .ok (.iload_n 1, 1) := by decide +kernel
theorem dX4_bestHead_67 : decode cX4_bestHead 67 = .ok (.ireturn, 1) := by decide +kernel
theorem dX4_most_0 : decode cX4_most 0 = .ok (.iload_n 1, 1) := by decide +kernel
theorem dX4_most_1 : decode cX4_most 1 = .ok (.ifCond .lt 9, 3) := by decide +kernel
theorem dX4_most_4 : decode cX4_most 4 = .ok (.iload_n 1, 1) := by decide +kernel
theorem dX4_most_5 : decode cX4_most 5 = .ok (.bipush 100, 2) := by decide +kernel
theorem dX4_most_7 : decode cX4_most 7 = .ok (.if_icmp .lt 6, 3) := by decide +kernel
theorem dX4_most_10 : decode cX4_most 10 = .ok (.bipush (-2), 2) := by decide +kernel
theorem dX4_most_12 : decode cX4_most 12 = .ok (.ireturn, 1) := by decide +kernel
theorem dX4_most_13 : decode cX4_most 13 = .ok (.bipush 40, 2) := by decide +kernel
theorem dX4_most_15 : decode cX4_most 15 = .ok (.istore_n 2, 1) := by decide +kernel
theorem dX4_most_16 : decode cX4_most 16 = .ok (.iload_n 2, 1) := by decide +kernel
theorem dX4_most_17 : decode cX4_most 17 = .ok (.ifCond .lt 35, 3) := by decide +kernel
theorem dX4_most_20 : decode cX4_most 20 = .ok (.aload_n 0, 1) := by decide +kernel
theorem dX4_most_21 : decode cX4_most 21 = .ok (.getfield 34, 3) := by decide +kernel
theorem dX4_most_24 : decode cX4_most 24 = .ok (.aload_n 0, 1) := by decide +kernel
theorem dX4_most_25 : decode cX4_most 25 = .ok (.getfield 30, 3) := by decide +kernel
theorem dX4_most_28 : decode cX4_most 28 = .ok (.invokevirtual 73, 3) := by decide +kernel
theorem dX4_most_31 : decode cX4_most 31 = .ok (.aload_n 0, 1) := by decide +kernel
theorem dX4_most_32 : decode cX4_most 32 = .ok (.getfield 34, 3) := by decide +kernel
theorem dX4_most_35 : decode cX4_most 35 = .ok (.iload_n 1, 1) := by decide +kernel
theorem dX4_most_36 : decode cX4_most 36 = .ok (.iload_n 2, 1) := by decide +kernel
theorem dX4_most_37 : decode cX4_most 37 = .ok (.invokevirtual 79, 3) := by decide +kernel
theorem dX4_most_40 : decode cX4_most 40 = .ok (.iconst (-1), 1) := by decide +kernel
theorem dX4_most_41 : decode cX4_most 41 = .ok (.if_icmp .eq 5, 3) := by decide +kernel
theorem dX4_most_44 : decode cX4_most 44 = .ok (.iload_n 2, 1) := by decide +kernel
theorem dX4_most_45 : decode cX4_most 45 = .ok (.ireturn, 1) := by decide +kernel
theorem dX4_most_46 : decode cX4_most 46 = .ok (.iinc 2 (-1), 3) := by decide +kernel
theorem dX4_most_49 : decode cX4_most 49 = .ok (.goto (-33), 3) := by decide +kernel
theorem dX4_most_52 : decode cX4_most 52 = .ok (.bipush (-6), 2) := by decide +kernel
theorem dX4_most_54 : decode cX4_most 54 = .ok (.ireturn, 1) := by decide +kernel
theorem dX4_put_0 : decode cX4_put 0 = .ok (.lload_n 1, 1) := by decide +kernel
theorem dX4_put_1 : decode cX4_put 1 = .ok (.invokestatic 178, 3) := by decide +kernel
theorem dX4_put_4 : decode cX4_put 4 = .ok (.istore_n 3, 1) := by decide +kernel
theorem dX4_put_5 : decode cX4_put 5 = .ok (.iload_n 3, 1) := by decide +kernel
theorem dX4_put_6 : decode cX4_put 6 = .ok (.ifCond .ne 6, 3) := by decide +kernel
theorem dX4_put_9 : decode cX4_put 9 = .ok (.bipush (-2), 2) := by decide +kernel
theorem dX4_put_11 : decode cX4_put 11 = .ok (.ireturn, 1) := by decide +kernel
theorem dX4_put_12 : decode cX4_put 12 = .ok (.aload_n 0, 1) := by decide +kernel
theorem dX4_put_13 : decode cX4_put 13 = .ok (.getfield 12, 3) := by decide +kernel
theorem dX4_put_16 : decode cX4_put 16 = .ok (.getfield 66, 3) := by decide +kernel
theorem dX4_put_19 : decode cX4_put 19 = .ok (.iload_n 3, 1) := by decide +kernel
theorem dX4_put_20 : decode cX4_put 20 = .ok (.iadd, 1) := by decide +kernel
theorem dX4_put_21 : decode cX4_put 21 = .ok (.bipush 80, 2) := by decide +kernel
theorem dX4_put_23 : decode cX4_put 23 = .ok (.if_icmp .le 6, 3) := by decide +kernel
theorem dX4_put_26 : decode cX4_put 26 = .ok (.bipush (-4), 2) := by decide +kernel
theorem dX4_put_28 : decode cX4_put 28 = .ok (.ireturn, 1) := by decide +kernel
theorem dX4_put_29 : decode cX4_put 29 = .ok (.iload_n 3, 1) := by decide +kernel
theorem dX4_put_30 : decode cX4_put 30 = .ok (.iconst 1, 1) := by decide +kernel
theorem dX4_put_31 : decode cX4_put 31 = .ok (.isub, 1) := by decide +kernel
theorem dX4_put_32 : decode cX4_put 32 = .ok (.istore 4, 2) := by decide +kernel
theorem dX4_put_34 : decode cX4_put 34 = .ok (.iload 4, 2) := by decide +kernel
theorem dX4_put_36 : decode cX4_put 36 = .ok (.ifCond .lt 43, 3) := by decide +kernel
theorem dX4_put_39 : decode cX4_put 39 = .ok (.aload_n 0, 1) := by decide +kernel
theorem dX4_put_40 : decode cX4_put 40 = .ok (.getfield 12, 3) := by decide +kernel
theorem dX4_put_43 : decode cX4_put 43 = .ok (.getfield 87, 3) := by decide +kernel
theorem dX4_put_46 : decode cX4_put 46 = .ok (.aload_n 0, 1) := by decide +kernel
theorem dX4_put_47 : decode cX4_put 47 = .ok (.getfield 12, 3) := by decide +kernel
theorem dX4_put_50 : decode cX4_put 50 = .ok (.getfield 66, 3) := by decide +kernel
theorem dX4_put_53 : decode cX4_put 53 = .ok (.lload_n 1, 1) := by decide +kernel
theorem dX4_put_54 : decode cX4_put 54 = .ok (.iload 4, 2) := by decide +kernel
theorem dX4_put_56 : decode cX4_put 56 = .ok (.invokestatic 182, 3) := by decide +kernel
theorem dX4_put_59 : decode cX4_put 59 = .ok (.iastore, 1) := by decide +kernel
theorem dX4_put_60 : decode cX4_put 60 = .ok (.aload_n 0, 1) := by decide +kernel
theorem dX4_put_61 : decode cX4_put 61 = .ok (.getfield 12, 3) := by decide +kernel
theorem dX4_put_64 : decode cX4_put 64 = .ok (.dup, 1) := by decide +kernel
theorem dX4_put_65 : decode cX4_put 65 = .ok (.getfield 66, 3) := by decide +kernel
theorem dX4_put_68 : decode cX4_put 68 = .ok (.iconst 1, 1) := by decide +kernel
theorem dX4_put_69 : decode cX4_put 69 = .ok (.iadd, 1) := by decide +kernel
theorem dX4_put_70 : decode cX4_put 70 = .ok (.putfield 66, 3) := by decide +kernel
theorem dX4_put_73 : decode cX4_put 73 = .ok (.iinc 4 (-1), 3) := by decide +kernel
theorem dX4_put_76 : decode cX4_put 76 = .ok (.goto (-42), 3) := by decide +kernel
theorem dX4_put_79 : decode cX4_put 79 = .ok (.aload_n 0, 1) := by decide +kernel
theorem dX4_put_80 : decode cX4_put 80 = .ok (.getfield 12, 3) := by decide +kernel
theorem dX4_put_83 : decode cX4_put 83 = .ok (.getfield 66, 3) := by decide +kernel
theorem dX4_put_86 : decode cX4_put 86 = .ok (.ireturn, 1) := by decide +kernel
theorem dX4_signsIn_0 : decode cX4_signsIn 0 = .ok (.iconst 0, 1) := by decide +kernel
theorem dX4_signsIn_1 : decode cX4_signsIn 1 = .ok (.istore_n 2, 1) := by decide +kernel
theorem dX4_signsIn_2 : decode cX4_signsIn 2 = .ok (.iload_n 2, 1) := by decide +kernel
theorem dX4_signsIn_3 : decode cX4_signsIn 3 = .ok (.bipush 8, 2) := by decide +kernel
theorem dX4_signsIn_5 : decode cX4_signsIn 5 = .ok (.if_icmp .ge 37, 3) := by decide +kernel
theorem dX4_signsIn_8 : decode cX4_signsIn 8 = .ok (.lload_n 0, 1) := by decide +kernel
theorem dX4_signsIn_9 : decode cX4_signsIn 9 = .ok (.iload_n 2, 1) := by decide +kernel
theorem dX4_signsIn_10 : decode cX4_signsIn 10 = .ok (.invokestatic 182, 3) := by decide +kernel
theorem dX4_signsIn_13 : decode cX4_signsIn 13 = .ok (.ifCond .eq 29, 3) := by decide +kernel
theorem dX4_signsIn_16 : decode cX4_signsIn 16 = .ok (.lload_n 0, 1) := by decide +kernel
theorem dX4_signsIn_17 : decode cX4_signsIn 17 = .ok (.iload_n 2, 1) := by decide +kernel
theorem dX4_signsIn_18 : decode cX4_signsIn 18 = .ok (.invokestatic 182, 3) := by decide +kernel
theorem dX4_signsIn_21 : decode cX4_signsIn 21 = .ok (.istore_n 3, 1) := by decide +kernel
theorem dX4_signsIn_22 : decode cX4_signsIn 22 = .ok (.iload_n 3, 1) := by decide +kernel
theorem dX4_signsIn_23 : decode cX4_signsIn 23 = .ok (.bipush 33, 2) := by decide +kernel
theorem dX4_signsIn_25 : decode cX4_signsIn 25 = .ok (.if_icmp .lt 9, 3) := by decide +kernel
theorem dX4_signsIn_28 : decode cX4_signsIn 28 = .ok (.iload_n 3, 1) := by decide +kernel
theorem dX4_signsIn_29 : decode cX4_signsIn 29 = .ok (.bipush 126, 2) := by decide +kernel
theorem dX4_signsIn_31 : decode cX4_signsIn 31 = .ok (.if_icmp .le 5, 3) := by decide +kernel
theorem dX4_signsIn_34 : decode cX4_signsIn 34 = .ok (.iconst 0, 1) := by decide +kernel
theorem dX4_signsIn_35 : decode cX4_signsIn 35 = .ok (.ireturn, 1) := by decide +kernel
theorem dX4_signsIn_36 : decode cX4_signsIn 36 = .ok (.iinc 2 1, 3) := by decide +kernel
theorem dX4_signsIn_39 : decode cX4_signsIn 39 = .ok (.goto (-37), 3) := by decide +kernel
theorem dX4_signsIn_42 : decode cX4_signsIn 42 = .ok (.iload_n 2, 1) := by decide +kernel
theorem dX4_signsIn_43 : decode cX4_signsIn 43 = .ok (.bipush 8, 2) := by decide +kernel
theorem dX4_signsIn_45 : decode cX4_signsIn 45 = .ok (.if_icmp .ge 18, 3) := by decide +kernel
theorem dX4_signsIn_48 : decode cX4_signsIn 48 = .ok (.lload_n 0, 1) := by decide +kernel
theorem dX4_signsIn_49 : decode cX4_signsIn 49 = .ok (.bipush 8, 2) := by decide +kernel
theorem dX4_signsIn_51 : decode cX4_signsIn 51 = .ok (.iload_n 2, 1) := by decide +kernel
theorem dX4_signsIn_52 : decode cX4_signsIn 52 = .ok (.imul, 1) := by decide +kernel
theorem dX4_signsIn_53 : decode cX4_signsIn 53 = .ok (.lushr, 1) := by decide +kernel
theorem dX4_signsIn_54 : decode cX4_signsIn 54 = .ok (.lconst 0, 1) := by decide +kernel
theorem dX4_signsIn_55 : decode cX4_signsIn 55 = .ok (.lcmp, 1) := by decide +kernel
theorem dX4_signsIn_56 : decode cX4_signsIn 56 = .ok (.ifCond .eq 7, 3) := by decide +kernel
theorem dX4_signsIn_59 : decode cX4_signsIn 59 = .ok (.iconst 1, 1) := by decide +kernel
theorem dX4_signsIn_60 : decode cX4_signsIn 60 = .ok (.goto 4, 3) := by decide +kernel
theorem dX4_signsIn_63 : decode cX4_signsIn 63 = .ok (.iconst 0, 1) := by decide +kernel
theorem dX4_signsIn_64 : decode cX4_signsIn 64 = .ok (.istore_n 3, 1) := by decide +kernel
theorem dX4_signsIn_65 : decode cX4_signsIn 65 = .ok (.iload_n 3, 1) := by decide +kernel
theorem dX4_signsIn_66 : decode cX4_signsIn 66 = .ok (.ifCond .eq 7, 3) := by decide +kernel
theorem dX4_signsIn_69 : decode cX4_signsIn 69 = .ok (.iconst 0, 1) := by decide +kernel
theorem dX4_signsIn_70 : decode cX4_signsIn 70 = .ok (.goto 4, 3) := by decide +kernel
theorem dX4_signsIn_73 : decode cX4_signsIn 73 = .ok (.iload_n 2, 1) := by decide +kernel
theorem dX4_signsIn_74 : decode cX4_signsIn 74 = .ok (.ireturn, 1) := by decide +kernel
theorem dX4_signOf_0 : decode cX4_signOf 0 = .ok (.lload_n 0, 1) := by decide +kernel
theorem dX4_signOf_1 : decode cX4_signOf 1 = .ok (.bipush 8, 2) := by decide +kernel
theorem dX4_signOf_3 : decode cX4_signOf 3 = .ok (.iload_n 2, 1) := by decide +kernel
theorem dX4_signOf_4 : decode cX4_signOf 4 = .ok (.imul, 1) := by decide +kernel
theorem dX4_signOf_5 : decode cX4_signOf 5 = .ok (.lushr, 1) := by decide +kernel
theorem dX4_signOf_6 : decode cX4_signOf 6 = .ok (.l2i, 1) := by decide +kernel
theorem dX4_signOf_7 : decode cX4_signOf 7 = .ok (.sipush 255, 3) := by decide +kernel
theorem dX4_signOf_10 : decode cX4_signOf 10 = .ok (.iand, 1) := by decide +kernel
theorem dX4_signOf_11 : decode cX4_signOf 11 = .ok (.ireturn, 1) := by decide +kernel
theorem dX4_wipe_0 : decode cX4_wipe 0 = .ok (.aload_n 0, 1) := by decide +kernel
theorem dX4_wipe_1 : decode cX4_wipe 1 = .ok (.getfield 12, 3) := by decide +kernel
theorem dX4_wipe_4 : decode cX4_wipe 4 = .ok (.getfield 66, 3) := by decide +kernel
theorem dX4_wipe_7 : decode cX4_wipe 7 = .ok (.istore_n 1, 1) := by decide +kernel
theorem dX4_wipe_8 : decode cX4_wipe 8 = .ok (.aload_n 0, 1) := by decide +kernel
theorem dX4_wipe_9 : decode cX4_wipe 9 = .ok (.getfield 12, 3) := by decide +kernel
theorem dX4_wipe_12 : decode cX4_wipe 12 = .ok (.iconst 0, 1) := by decide +kernel
theorem dX4_wipe_13 : decode cX4_wipe 13 = .ok (.putfield 66, 3) := by decide +kernel
theorem dX4_wipe_16 : decode cX4_wipe 16 = .ok (.iload_n 1, 1) := by decide +kernel
theorem dX4_wipe_17 : decode cX4_wipe 17 = .ok (.ireturn, 1) := by decide +kernel
theorem dX4_fault_0 : decode cX4_fault 0 = .ok (.aload_n 0, 1) := by decide +kernel
theorem dX4_fault_1 : decode cX4_fault 1 = .ok (.getfield 12, 3) := by decide +kernel
theorem dX4_fault_4 : decode cX4_fault 4 = .ok (.invokevirtual 55, 3) := by decide +kernel
theorem dX4_fault_7 : decode cX4_fault 7 = .ok (.istore_n 1, 1) := by decide +kernel
theorem dX4_fault_8 : decode cX4_fault 8 = .ok (.iload_n 1, 1) := by decide +kernel
theorem dX4_fault_9 : decode cX4_fault 9 = .ok (.iconst (-1), 1) := by decide +kernel
theorem dX4_fault_10 : decode cX4_fault 10 = .ok (.if_icmp .ne 8, 3) := by decide +kernel
theorem dX4_fault_13 : decode cX4_fault 13 = .ok (.bipush (-6), 2) := by decide +kernel
theorem dX4_fault_15 : decode cX4_fault 15 = .ok (.goto 4, 3) := by decide +kernel
theorem dX4_fault_18 : decode cX4_fault 18 = .ok (.iload_n 1, 1) := by decide +kernel
theorem dX4_fault_19 : decode cX4_fault 19 = .ok (.ireturn, 1) := by decide +kernel
theorem dX4_undo_0 : decode cX4_undo 0 = .ok (.aload_n 0, 1) := by decide +kernel
theorem dX4_undo_1 : decode cX4_undo 1 = .ok (.getfield 19, 3) := by decide +kernel
theorem dX4_undo_4 : decode cX4_undo 4 = .ok (.getfield 175, 3) := by decide +kernel
theorem dX4_undo_7 : decode cX4_undo 7 = .ok (.ifCond .ne 6, 3) := by decide +kernel
theorem dX4_undo_10 : decode cX4_undo 10 = .ok (.bipush (-5), 2) := by decide +kernel
theorem dX4_undo_12 : decode cX4_undo 12 = .ok (.ireturn, 1) := by decide +kernel
theorem dX4_undo_13 : decode cX4_undo 13 = .ok (.aload_n 0, 1) := by decide +kernel
theorem dX4_undo_14 : decode cX4_undo 14 = .ok (.getfield 19, 3) := by decide +kernel
theorem dX4_undo_17 : decode cX4_undo 17 = .ok (.aload_n 0, 1) := by decide +kernel
theorem dX4_undo_18 : decode cX4_undo 18 = .ok (.getfield 30, 3) := by decide +kernel
theorem dX4_undo_21 : decode cX4_undo 21 = .ok (.invokevirtual 186, 3) := by decide +kernel
theorem dX4_undo_24 : decode cX4_undo 24 = .ok (.aload_n 0, 1) := by decide +kernel
theorem dX4_undo_25 : decode cX4_undo 25 = .ok (.getfield 19, 3) := by decide +kernel
theorem dX4_undo_28 : decode cX4_undo 28 = .ok (.getfield 175, 3) := by decide +kernel
theorem dX4_undo_31 : decode cX4_undo 31 = .ok (.ireturn, 1) := by decide +kernel
theorem dX4_save_0 : decode cX4_save 0 = .ok (.iload_n 1, 1) := by decide +kernel
theorem dX4_save_1 : decode cX4_save 1 = .ok (.ifCond .lt 8, 3) := by decide +kernel
theorem dX4_save_4 : decode cX4_save 4 = .ok (.iload_n 1, 1) := by decide +kernel
theorem dX4_save_5 : decode cX4_save 5 = .ok (.iconst 2, 1) := by decide +kernel
theorem dX4_save_6 : decode cX4_save 6 = .ok (.if_icmp .lt 6, 3) := by decide +kernel
theorem dX4_save_9 : decode cX4_save 9 = .ok (.bipush (-2), 2) := by decide +kernel
theorem dX4_save_11 : decode cX4_save 11 = .ok (.ireturn, 1) := by decide +kernel
theorem dX4_save_12 : decode cX4_save 12 = .ok (.aload_n 0, 1) := by decide +kernel
theorem dX4_save_13 : decode cX4_save 13 = .ok (.getfield 25, 3) := by decide +kernel
theorem dX4_save_16 : decode cX4_save 16 = .ok (.iload_n 1, 1) := by decide +kernel
theorem dX4_save_17 : decode cX4_save 17 = .ok (.aaload, 1) := by decide +kernel
theorem dX4_save_18 : decode cX4_save 18 = .ok (.ifnonnull 16, 3) := by decide +kernel
theorem dX4_save_21 : decode cX4_save 21 = .ok (.aload_n 0, 1) := by decide +kernel
theorem dX4_save_22 : decode cX4_save 22 = .ok (.getfield 25, 3) := by decide +kernel
theorem dX4_save_25 : decode cX4_save 25 = .ok (.iload_n 1, 1) := by decide +kernel
theorem dX4_save_26 : decode cX4_save 26 = .ok (.new 23, 3) := by decide +kernel
theorem dX4_save_29 : decode cX4_save 29 = .ok (.dup, 1) := by decide +kernel
theorem dX4_save_30 : decode cX4_save 30 = .ok (.invokespecial 29, 3) := by decide +kernel
theorem dX4_save_33 : decode cX4_save 33 = .ok (.aastore, 1) := by decide +kernel
theorem dX4_save_34 : decode cX4_save 34 = .ok (.aload_n 0, 1) := by decide +kernel
theorem dX4_save_35 : decode cX4_save 35 = .ok (.getfield 25, 3) := by decide +kernel
theorem dX4_save_38 : decode cX4_save 38 = .ok (.iload_n 1, 1) := by decide +kernel
theorem dX4_save_39 : decode cX4_save 39 = .ok (.aaload, 1) := by decide +kernel
theorem dX4_save_40 : decode cX4_save 40 = .ok (.aload_n 0, 1) := by decide +kernel
theorem dX4_save_41 : decode cX4_save 41 = .ok (.getfield 30, 3) := by decide +kernel
theorem dX4_save_44 : decode cX4_save 44 = .ok (.invokevirtual 73, 3) := by decide +kernel
theorem dX4_save_47 : decode cX4_save 47 = .ok (.aload_n 0, 1) := by decide +kernel
theorem dX4_save_48 : decode cX4_save 48 = .ok (.getfield 30, 3) := by decide +kernel
theorem dX4_save_51 : decode cX4_save 51 = .ok (.getfield 159, 3) := by decide +kernel
theorem dX4_save_54 : decode cX4_save 54 = .ok (.ireturn, 1) := by decide +kernel
theorem dX4_restore_0 : decode cX4_restore 0 = .ok (.iload_n 1, 1) := by decide +kernel
theorem dX4_restore_1 : decode cX4_restore 1 = .ok (.ifCond .lt 8, 3) := by decide +kernel
theorem dX4_restore_4 : decode cX4_restore 4 = .ok (.iload_n 1, 1) := by decide +kernel
theorem dX4_restore_5 : decode cX4_restore 5 = .ok (.iconst 2, 1) := by decide +kernel
theorem dX4_restore_6 : decode cX4_restore 6 = .ok (.if_icmp .lt 6, 3) := by decide +kernel
theorem dX4_restore_9 : decode cX4_restore 9 = .ok (.bipush (-2), 2) := by decide +kernel
theorem dX4_restore_11 : decode cX4_restore 11 = .ok (.ireturn, 1) := by decide +kernel
theorem dX4_restore_12 : decode cX4_restore 12 = .ok (.aload_n 0, 1) := by decide +kernel
theorem dX4_restore_13 : decode cX4_restore 13 = .ok (.getfield 25, 3) := by decide +kernel
theorem dX4_restore_16 : decode cX4_restore 16 = .ok (.iload_n 1, 1) := by decide +kernel
theorem dX4_restore_17 : decode cX4_restore 17 = .ok (.aaload, 1) := by decide +kernel
theorem dX4_restore_18 : decode cX4_restore 18 = .ok (.ifnonnull 6, 3) := by decide +kernel
theorem dX4_restore_21 : decode cX4_restore 21 = .ok (.bipush (-5), 2) := by decide +kernel
theorem dX4_restore_23 : decode cX4_restore 23 = .ok (.ireturn, 1) := by decide +kernel
theorem dX4_restore_24 : decode cX4_restore 24 = .ok (.aload_n 0, 1) := by decide +kernel
theorem dX4_restore_25 : decode cX4_restore 25 = .ok (.getfield 19, 3) := by decide +kernel
theorem dX4_restore_28 : decode cX4_restore 28 = .ok (.aload_n 0, 1) := by decide +kernel
theorem dX4_restore_29 : decode cX4_restore 29 = .ok (.getfield 30, 3) := by decide +kernel
theorem dX4_restore_32 : decode cX4_restore 32 = .ok (.invokevirtual 44, 3) := by decide +kernel
theorem dX4_restore_35 : decode cX4_restore 35 = .ok (.aload_n 0, 1) := by decide +kernel
theorem dX4_restore_36 : decode cX4_restore 36 = .ok (.getfield 30, 3) := by decide +kernel
theorem dX4_restore_39 : decode cX4_restore 39 = .ok (.aload_n 0, 1) := by decide +kernel
theorem dX4_restore_40 : decode cX4_restore 40 = .ok (.getfield 25, 3) := by decide +kernel
theorem dX4_restore_43 : decode cX4_restore 43 = .ok (.iload_n 1, 1) := by decide +kernel
theorem dX4_restore_44 : decode cX4_restore 44 = .ok (.aaload, 1) := by decide +kernel
theorem dX4_restore_45 : decode cX4_restore 45 = .ok (.invokevirtual 73, 3) := by decide +kernel
theorem dX4_restore_48 : decode cX4_restore 48 = .ok (.aload_n 0, 1) := by decide +kernel
theorem dX4_restore_49 : decode cX4_restore 49 = .ok (.getfield 30, 3) := by decide +kernel
theorem dX4_restore_52 : decode cX4_restore 52 = .ok (.getfield 159, 3) := by decide +kernel
theorem dX4_restore_55 : decode cX4_restore 55 = .ok (.ireturn, 1) := by decide +kernel
theorem dX5_init_0 : decode cX5_init 0 = .ok (.aload_n 0, 1) := by decide +kernel
theorem dX5_init_1 : decode cX5_init 1 = .ok (.invokespecial 1, 3) := by decide +kernel
theorem dX5_init_4 : decode cX5_init 4 = .ok (.aload_n 0, 1) := by decide +kernel
theorem dX5_init_5 : decode cX5_init 5 = .ok (.sipush 763, 3) := by decide +kernel
theorem dX5_init_8 : decode cX5_init 8 = .ok (.newarray .int, 2) := by decide +kernel
theorem dX5_init_10 : decode cX5_init 10 = .ok (.putfield 7, 3) := by decide +kernel
theorem dX5_init_13 : decode cX5_init 13 = .ok (.aload_n 0, 1) := by decide +kernel
theorem dX5_init_14 : decode cX5_init 14 = .ok (.sipush 763, 3) := by decide +kernel
theorem dX5_init_17 : decode cX5_init 17 = .ok (.newarray .int, 2) := by decide +kernel
theorem dX5_init_19 : decode cX5_init 19 = .ok (.putfield 13, 3) := by decide +kernel
theorem dX5_init_22 : decode cX5_init 22 = .ok (.aload_n 0, 1) := by decide +kernel
theorem dX5_init_23 : decode cX5_init 23 = .ok (.sipush 763, 3) := by decide +kernel
theorem dX5_init_26 : decode cX5_init 26 = .ok (.newarray .int, 2) := by decide +kernel
theorem dX5_init_28 : decode cX5_init 28 = .ok (.putfield 16, 3) := by decide +kernel
theorem dX5_init_31 : decode cX5_init 31 = .ok (.aload_n 0, 1) := by decide +kernel
theorem dX5_init_32 : decode cX5_init 32 = .ok (.sipush 4578, 3) := by decide +kernel
theorem dX5_init_35 : decode cX5_init 35 = .ok (.newarray .int, 2) := by decide +kernel
theorem dX5_init_37 : decode cX5_init 37 = .ok (.putfield 19, 3) := by decide +kernel
theorem dX5_init_40 : decode cX5_init 40 = .ok (.aload_n 0, 1) := by decide +kernel
theorem dX5_init_41 : decode cX5_init 41 = .ok (.sipush 1526, 3) := by decide +kernel
theorem dX5_init_44 : decode cX5_init 44 = .ok (.newarray .int, 2) := by decide +kernel
theorem dX5_init_46 : decode cX5_init 46 = .ok (.putfield 22, 3) := by decide +kernel
theorem dX5_init_49 : decode cX5_init 49 = .ok (.aload_n 0, 1) := by decide +kernel
theorem dX5_init_50 : decode cX5_init 50 = .ok (.iconst 2, 1) := by decide +kernel
theorem dX5_init_51 : decode cX5_init 51 = .ok (.newarray .int, 2) := by decide +kernel
theorem dX5_init_53 : decode cX5_init 53 = .ok (.putfield 25, 3) := by decide +kernel
theorem dX5_init_56 : decode cX5_init 56 = .ok (.aload_n 0, 1) := by decide +kernel
theorem dX5_init_57 : decode cX5_init 57 = .ok (.bipush 80, 2) := by decide +kernel
theorem dX5_init_59 : decode cX5_init 59 = .ok (.newarray .int, 2) := by decide +kernel
theorem dX5_init_61 : decode cX5_init 61 = .ok (.putfield 28, 3) := by decide +kernel
theorem dX5_init_64 : decode cX5_init 64 = .ok (.aload_n 0, 1) := by decide +kernel
theorem dX5_init_65 : decode cX5_init 65 = .ok (.bipush 40, 2) := by decide +kernel
theorem dX5_init_67 : decode cX5_init 67 = .ok (.newarray .int, 2) := by decide +kernel
theorem dX5_init_69 : decode cX5_init 69 = .ok (.putfield 31, 3) := by decide +kernel
theorem dX5_init_72 : decode cX5_init 72 = .ok (.aload_n 0, 1) := by decide +kernel
theorem dX5_init_73 : decode cX5_init 73 = .ok (.bipush 40, 2) := by decide +kernel
theorem dX5_init_75 : decode cX5_init 75 = .ok (.newarray .int, 2) := by decide +kernel
theorem dX5_init_77 : decode cX5_init 77 = .ok (.putfield 34, 3) := by decide +kernel
theorem dX5_init_80 : decode cX5_init 80 = .ok (.aload_n 0, 1) := by decide +kernel
theorem dX5_init_81 : decode cX5_init 81 = .ok (.getfield 7, 3) := by decide +kernel
theorem dX5_init_84 : decode cX5_init 84 = .ok (.iconst 0, 1) := by decide +kernel
theorem dX5_init_85 : decode cX5_init 85 = .ok (.bipush 6, 2) := by decide +kernel
theorem dX5_init_87 : decode cX5_init 87 = .ok (.iastore, 1) := by decide +kernel
theorem dX5_init_88 : decode cX5_init 88 = .ok (.aload_n 0, 1) := by decide +kernel
theorem dX5_init_89 : decode cX5_init 89 = .ok (.getfield 7, 3) := by decide +kernel
theorem dX5_init_92 : decode cX5_init 92 = .ok (.iconst 1, 1) := by decide +kernel
theorem dX5_init_93 : decode cX5_init 93 = .ok (.bipush 8, 2) := by decide +kernel
theorem dX5_init_95 : decode cX5_init 95 = .ok (.iastore, 1) := by decide +kernel
theorem dX5_init_96 : decode cX5_init 96 = .ok (.return_, 1) := by decide +kernel
theorem dX5_moves_0 : decode cX5_moves 0 = .ok (.iconst 0, 1) := by decide +kernel
theorem dX5_moves_1 : decode cX5_moves 1 = .ok (.istore 4, 2) := by decide +kernel
theorem dX5_moves_3 : decode cX5_moves 3 = .ok (.iload 4, 2) := by decide +kernel
theorem dX5_moves_5 : decode cX5_moves 5 = .ok (.sipush 763, 3) := by decide +kernel
theorem dX5_moves_8 : decode cX5_moves 8 = .ok (.if_icmp .ge 21, 3) := by decide +kernel
theorem dX5_moves_11 : decode cX5_moves 11 = .ok (.aload_n 2, 1) := by decide +kernel
theorem dX5_moves_12 : decode cX5_moves 12 = .ok (.iload_n 3, 1) := by decide +kernel
theorem dX5_moves_13 : decode cX5_moves 13 = .ok (.iload 4, 2) := by decide +kernel
theorem dX5_moves_15 : decode cX5_moves 15 = .ok (.iadd, 1) := by decide +kernel
theorem dX5_moves_16 : decode cX5_moves 16 = .ok (.aload_n 0, 1) := by decide +kernel
theorem dX5_moves_17 : decode cX5_moves 17 = .ok (.iload_n 1, 1) := by decide +kernel
theorem dX5_moves_18 : decode cX5_moves 18 = .ok (.iload 4, 2) := by decide +kernel
theorem dX5_moves_20 : decode cX5_moves 20 = .ok (.iadd, 1) := by decide +kernel
theorem dX5_moves_21 : decode cX5_moves 21 = .ok (.iaload, 1) := by decide +kernel
theorem dX5_moves_22 : decode cX5_moves 22 = .ok (.iastore, 1) := by decide +kernel
theorem dX5_moves_23 : decode cX5_moves 23 = .ok (.iinc 4 1, 3) := by decide +kernel
theorem dX5_moves_26 : decode cX5_moves 26 = .ok (.goto (-23), 3) := by decide +kernel
theorem dX5_moves_29 : decode cX5_moves 29 = .ok (.return_, 1) := by decide +kernel
theorem dX5_within_0 : decode cX5_within 0 = .ok (.iload_n 0, 1) := by decide +kernel
theorem dX5_within_1 : decode cX5_within 1 = .ok (.iload_n 1, 1) := by decide +kernel
theorem dX5_within_2 : decode cX5_within 2 = .ok (.if_icmp .lt 12, 3) := by decide +kernel
theorem dX5_within_5 : decode cX5_within 5 = .ok (.iload_n 0, 1) := by decide +kernel
theorem dX5_within_6 : decode cX5_within 6 = .ok (.iload_n 2, 1) := by decide +kernel
theorem dX5_within_7 : decode cX5_within 7 = .ok (.if_icmp .gt 7, 3) := by decide +kernel
theorem dX5_within_10 : decode cX5_within 10 = .ok (.iconst 1, 1) := by decide +kernel
theorem dX5_within_11 : decode cX5_within 11 = .ok (.goto 4, 3) := by decide +kernel
theorem dX5_within_14 : decode cX5_within 14 = .ok (.iconst 0, 1) := by decide +kernel
theorem dX5_within_15 : decode cX5_within 15 = .ok (.ireturn, 1) := by decide +kernel
theorem dX5_record_0 : decode cX5_record 0 = .ok (.aload_n 0, 1) := by decide +kernel
theorem dX5_record_1 : decode cX5_record 1 = .ok (.getfield 37, 3) := by decide +kernel
theorem dX5_record_4 : decode cX5_record 4 = .ok (.bipush 6, 2) := by decide +kernel
theorem dX5_record_6 : decode cX5_record 6 = .ok (.if_icmp .ne 44, 3) := by decide +kernel
theorem dX5_record_9 : decode cX5_record 9 = .ok (.iconst 0, 1) := by decide +kernel
theorem dX5_record_10 : decode cX5_record 10 = .ok (.istore_n 2, 1) := by decide +kernel
theorem dX5_record_11 : decode cX5_record 11 = .ok (.iload_n 2, 1) := by decide +kernel
theorem dX5_record_12 : decode cX5_record 12 = .ok (.sipush 3815, 3) := by decide +kernel
theorem dX5_record_15 : decode cX5_record 15 = .ok (.if_icmp .ge 25, 3) := by decide +kernel
theorem dX5_record_18 : decode cX5_record 18 = .ok (.aload_n 0, 1) := by decide +kernel
theorem dX5_record_19 : decode cX5_record 19 = .ok (.getfield 19, 3) := by decide +kernel
theorem dX5_record_22 : decode cX5_record 22 = .ok (.iload_n 2, 1) := by decide +kernel
theorem dX5_record_23 : decode cX5_record 23 = .ok (.aload_n 0, 1) := by decide +kernel
theorem dX5_record_24 : decode cX5_record 24 = .ok (.getfield 19, 3) := by decide +kernel
theorem dX5_record_27 : decode cX5_record 27 = .ok (.iload_n 2, 1) := by decide +kernel
theorem dX5_record_28 : decode cX5_record 28 = .ok (.sipush 763, 3) := by decide +kernel
theorem dX5_record_31 : decode cX5_record 31 = .ok (.iadd, 1) := by decide +kernel
theorem dX5_record_32 : decode cX5_record 32 = .ok (.iaload, 1) := by decide +kernel
theorem dX5_record_33 : decode cX5_record 33 = .ok (.iastore, 1) := by decide +kernel
theorem dX5_record_34 : decode cX5_record 34 = .ok (.iinc 2 1, 3) := by decide +kernel
theorem dX5_record_37 : decode cX5_record 37 = .ok (.goto (-26), 3) := by decide +kernel
theorem dX5_record_40 : decode cX5_record 40 = .ok (.aload_n 0, 1) := by decide +kernel
theorem dX5_record_41 : decode cX5_record 41 = .ok (.dup, 1) := by decide +kernel
theorem dX5_record_42 : decode cX5_record 42 = .ok (.getfield 37, 3) := by decide +kernel
theorem dX5_record_45 : decode cX5_record 45 = .ok (.iconst 1, 1) := by decide +kernel
theorem dX5_record_46 : decode cX5_record 46 = .ok (.isub, 1) := by decide +kernel
theorem dX5_record_47 : decode cX5_record 47 = .ok (.putfield 37, 3) := by decide +kernel
theorem dX5_record_50 : decode cX5_record 50 = .ok (.aload_n 1, 1) := by decide +kernel
theorem dX5_record_51 : decode cX5_record 51 = .ok (.iconst 0, 1) := by decide +kernel
theorem dX5_record_52 : decode cX5_record 52 = .ok (.aload_n 0, 1) := by decide +kernel
theorem dX5_record_53 : decode cX5_record 53 = .ok (.getfield 19, 3) := by decide +kernel
theorem dX5_record_56 : decode cX5_record 56 = .ok (.aload_n 0, 1) := by decide +kernel
theorem dX5_record_57 : decode cX5_record 57 = .ok (.getfield 37, 3) := by decide +kernel
theorem dX5_record_60 : decode cX5_record 60 = .ok (.sipush 763, 3) := by decide +kernel
theorem dX5_record_63 : decode cX5_record 63 = .ok (.imul, 1) := by decide +kernel
theorem dX5_record_64 : decode cX5_record 64 = .ok (.invokestatic 41, 3) := by decide +kernel
theorem dX5_record_67 : decode cX5_record 67 = .ok (.aload_n 0, 1) := by decide +kernel
theorem dX5_record_68 : decode cX5_record 68 = .ok (.dup, 1) := by decide +kernel
theorem dX5_record_69 : decode cX5_record 69 = .ok (.getfield 37, 3) := by decide +kernel
theorem dX5_record_72 : decode cX5_record 72 = .ok (.iconst 1, 1) := by decide +kernel
theorem dX5_record_73 : decode cX5_record 73 = .ok (.iadd, 1) := by decide +kernel
theorem dX5_record_74 : decode cX5_record 74 = .ok (.putfield 37, 3) := by decide +kernel
theorem dX5_record_77 : decode cX5_record 77 = .ok (.return_, 1) := by decide +kernel
theorem dX5_kindOf_0 : decode cX5_kindOf 0 = .ok (.iload_n 0, 1) := by decide +kernel
theorem dX5_kindOf_1 : decode cX5_kindOf 1 = .ok (.iconst 3, 1) := by decide +kernel
theorem dX5_kindOf_2 : decode cX5_kindOf 2 = .ok (.iand, 1) := by decide +kernel
theorem dX5_kindOf_3 : decode cX5_kindOf 3 = .ok (.ireturn, 1) := by decide +kernel
theorem dX5_rowOf_0 : decode cX5_rowOf 0 = .ok (.iload_n 0, 1) := by decide +kernel
theorem dX5_rowOf_1 : decode cX5_rowOf 1 = .ok (.iconst 2, 1) := by decide +kernel
theorem dX5_rowOf_2 : decode cX5_rowOf 2 = .ok (.ishr, 1) := by decide +kernel
theorem dX5_rowOf_3 : decode cX5_rowOf 3 = .ok (.bipush 31, 2) := by decide +kernel
theorem dX5_rowOf_5 : decode cX5_rowOf 5 = .ok (.iand, 1) := by decide +kernel
theorem dX5_rowOf_6 : decode cX5_rowOf 6 = .ok (.ireturn, 1) := by decide +kernel
theorem dX5_numberOf_0 : decode cX5_numberOf 0 = .ok (.iload_n 0, 1) := by decide +kernel
theorem dX5_numberOf_1 : decode cX5_numberOf 1 = .ok (.bipush 7, 2) := by decide +kernel
theorem dX5_numberOf_3 : decode cX5_numberOf 3 = .ok (.ishr, 1) := by decide +kernel
theorem dX5_numberOf_4 : decode cX5_numberOf 4 = .ok (.bipush 63, 2) := by decide +kernel
theorem dX5_numberOf_6 : decode cX5_numberOf 6 = .ok (.iand, 1) := by decide +kernel
theorem dX5_numberOf_7 : decode cX5_numberOf 7 = .ok (.ireturn, 1) := by decide +kernel
theorem dX5_lettersOf_0 : decode cX5_lettersOf 0 = .ok (.iload_n 0, 1) := by decide +kernel
theorem dX5_lettersOf_1 : decode cX5_lettersOf 1 = .ok (.bipush 13, 2) := by decide +kernel
theorem dX5_lettersOf_3 : decode cX5_lettersOf 3 = .ok (.ishr, 1) := by decide +kernel
theorem dX5_lettersOf_4 : decode cX5_lettersOf 4 = .ok (.ireturn, 1) := by decide +kernel
theorem dX5_thing_0 : decode cX5_thing 0 = .ok (.iload_n 0, 1) := by decide +kernel
theorem dX5_thing_1 : decode cX5_thing 1 = .ok (.iconst 4, 1) := by decide +kernel
theorem dX5_thing_2 : decode cX5_thing 2 = .ok (.iload_n 1, 1) := by decide +kernel
theorem dX5_thing_3 : decode cX5_thing 3 = .ok (.imul, 1) := by decide +kernel
theorem dX5_thing_4 : decode cX5_thing 4 = .ok (.iadd, 1) := by decide +kernel
theorem dX5_thing_5 : decode cX5_thing 5 = .ok (.sipush 128, 3) := by decide +kernel
theorem dX5_thing_8 : decode cX5_thing 8 = .ok (.iload_n 2, 1) := by decide +kernel
theorem dX5_thing_9 : decode cX5_thing 9 = .ok (.imul, 1) := by decide +kernel
theorem dX5_thing_10 : decode cX5_thing 10 = .ok (.iadd, 1) := by decide +kernel
theorem dX5_thing_11 : decode cX5_thing 11 = .ok (.sipush 8192, 3) := by decide +kernel
theorem dX5_thing_14 : decode cX5_thing 14 = .ok (.iload_n 3, 1) := by decide +kernel
theorem dX5_thing_15 : decode cX5_thing 15 = .ok (.imul, 1) := by decide +kernel
theorem dX5_thing_16 : decode cX5_thing 16 = .ok (.iadd, 1) := by decide +kernel
theorem dX5_thing_17 : decode cX5_thing 17 = .ok (.ireturn, 1) := by decide +kernel
theorem dX5_cellsOf_0 : decode cX5_cellsOf 0 = .ok (.iload_n 0, 1) := by decide +kernel
theorem dX5_cellsOf_1 : decode cX5_cellsOf 1 = .ok (.invokestatic 45, 3) := by decide +kernel
theorem dX5_cellsOf_4 : decode cX5_cellsOf 4 = .ok (.tableswitch 44 1 3 #[28, 35, 42], 28) := by decide +kernel
theorem dX5_cellsOf_32 : decode cX5_cellsOf 32 = .ok (.iconst 2, 1) := by decide +kernel
theorem dX5_cellsOf_33 : decode cX5_cellsOf 33 = .ok (.iload_n 0, 1) := by decide +kernel
theorem dX5_cellsOf_34 : decode cX5_cellsOf 34 = .ok (.invokestatic 49, 3) := by decide +kernel
theorem dX5_cellsOf_37 : decode cX5_cellsOf 37 = .ok (.iadd, 1) := by decide +kernel
theorem dX5_cellsOf_38 : decode cX5_cellsOf 38 = .ok (.ireturn, 1) := by decide +kernel
theorem dX5_cellsOf_39 : decode cX5_cellsOf 39 = .ok (.iconst 1, 1) := by decide +kernel
theorem dX5_cellsOf_40 : decode cX5_cellsOf 40 = .ok (.iload_n 0, 1) := by decide +kernel
theorem dX5_cellsOf_41 : decode cX5_cellsOf 41 = .ok (.invokestatic 49, 3) := by decide +kernel
theorem dX5_cellsOf_44 : decode cX5_cellsOf 44 = .ok (.iadd, 1) := by decide +kernel
theorem dX5_cellsOf_45 : decode cX5_cellsOf 45 = .ok (.ireturn, 1) := by decide +kernel
theorem dX5_cellsOf_46 : decode cX5_cellsOf 46 = .ok (.iconst 1, 1) := by decide +kernel
theorem dX5_cellsOf_47 : decode cX5_cellsOf 47 = .ok (.ireturn, 1) := by decide +kernel
theorem dX5_cellsOf_48 : decode cX5_cellsOf 48 = .ok (.iconst 0, 1) := by decide +kernel
theorem dX5_cellsOf_49 : decode cX5_cellsOf 49 = .ok (.ireturn, 1) := by decide +kernel
theorem dX5_freeOf_0 : decode cX5_freeOf 0 = .ok (.bipush 40, 2) := by decide +kernel
theorem dX5_freeOf_2 : decode cX5_freeOf 2 = .ok (.istore_n 2, 1) := by decide +kernel
theorem dX5_freeOf_3 : decode cX5_freeOf 3 = .ok (.iconst 0, 1) := by decide +kernel
theorem dX5_freeOf_4 : decode cX5_freeOf 4 = .ok (.istore_n 3, 1) := by decide +kernel
theorem dX5_freeOf_5 : decode cX5_freeOf 5 = .ok (.iload_n 3, 1) := by decide +kernel
theorem dX5_freeOf_6 : decode cX5_freeOf 6 = .ok (.bipush 40, 2) := by decide +kernel
theorem dX5_freeOf_8 : decode cX5_freeOf 8 = .ok (.if_icmp .ge 30, 3) := by decide +kernel
theorem dX5_freeOf_11 : decode cX5_freeOf 11 = .ok (.iload_n 2, 1) := by decide +kernel
theorem dX5_freeOf_12 : decode cX5_freeOf 12 = .ok (.aload_n 0, 1) := by decide +kernel
theorem dX5_freeOf_13 : decode cX5_freeOf 13 = .ok (.getfield 7, 3) := by decide +kernel
theorem dX5_freeOf_16 : decode cX5_freeOf 16 = .ok (.sipush 363, 3) := by decide +kernel
theorem dX5_freeOf_19 : decode cX5_freeOf 19 = .ok (.bipush 40, 2) := by decide +kernel
theorem dX5_freeOf_21 : decode cX5_freeOf 21 = .ok (.iload_n 1, 1) := by decide +kernel
theorem dX5_freeOf_22 : decode cX5_freeOf 22 = .ok (.imul, 1) := by decide +kernel
theorem dX5_freeOf_23 : decode cX5_freeOf 23 = .ok (.iadd, 1) := by decide +kernel
theorem dX5_freeOf_24 : decode cX5_freeOf 24 = .ok (.iload_n 3, 1) := by decide +kernel
theorem dX5_freeOf_25 : decode cX5_freeOf 25 = .ok (.iadd, 1) := by decide +kernel
theorem dX5_freeOf_26 : decode cX5_freeOf 26 = .ok (.iaload, 1) := by decide +kernel
theorem dX5_freeOf_27 : decode cX5_freeOf 27 = .ok (.invokestatic 52, 3) := by decide +kernel
theorem dX5_freeOf_30 : decode cX5_freeOf 30 = .ok (.isub, 1) := by decide +kernel
theorem dX5_freeOf_31 : decode cX5_freeOf 31 = .ok (.istore_n 2, 1) := by decide +kernel
theorem dX5_freeOf_32 : decode cX5_freeOf 32 = .ok (.iinc 3 1, 3) := by decide +kernel
theorem dX5_freeOf_35 : decode cX5_freeOf 35 = .ok (.goto (-30), 3) := by decide +kernel
theorem dX5_freeOf_38 : decode cX5_freeOf 38 = .ok (.iload_n 2, 1) := by decide +kernel
theorem dX5_freeOf_39 : decode cX5_freeOf 39 = .ok (.ireturn, 1) := by decide +kernel
theorem dX5_slotsOf_0 : decode cX5_slotsOf 0 = .ok (.iconst 0, 1) := by decide +kernel
theorem dX5_slotsOf_1 : decode cX5_slotsOf 1 = .ok (.istore_n 2, 1) := by decide +kernel
theorem dX5_slotsOf_2 : decode cX5_slotsOf 2 = .ok (.iconst 0, 1) := by decide +kernel
theorem dX5_slotsOf_3 : decode cX5_slotsOf 3 = .ok (.istore_n 3, 1) := by decide +kernel
theorem dX5_slotsOf_4 : decode cX5_slotsOf 4 = .ok (.iload_n 3, 1) := by decide +kernel
theorem dX5_slotsOf_5 : decode cX5_slotsOf 5 = .ok (.bipush 40, 2) := by decide +kernel
theorem dX5_slotsOf_7 : decode cX5_slotsOf 7 = .ok (.if_icmp .ge 35, 3) := by decide +kernel
theorem dX5_slotsOf_10 : decode cX5_slotsOf 10 = .ok (.aload_n 0, 1) := by decide +kernel
theorem dX5_slotsOf_11 : decode cX5_slotsOf 11 = .ok (.getfield 7, 3) := by decide +kernel
theorem dX5_slotsOf_14 : decode cX5_slotsOf 14 = .ok (.sipush 363, 3) := by decide +kernel
theorem dX5_slotsOf_17 : decode cX5_slotsOf 17 = .ok (.bipush 40, 2) := by decide +kernel
theorem dX5_slotsOf_19 : decode cX5_slotsOf 19 = .ok (.iload_n 1, 1) := by decide +kernel
theorem dX5_slotsOf_20 : decode cX5_slotsOf 20 = .ok (.imul, 1) := by decide +kernel
theorem dX5_slotsOf_21 : decode cX5_slotsOf 21 = .ok (.iadd, 1) := by decide +kernel
theorem dX5_slotsOf_22 : decode cX5_slotsOf 22 = .ok (.iload_n 3, 1) := by decide +kernel
theorem dX5_slotsOf_23 : decode cX5_slotsOf 23 = .ok (.iadd, 1) := by decide +kernel
theorem dX5_slotsOf_24 : decode cX5_slotsOf 24 = .ok (.iaload, 1) := by decide +kernel
theorem dX5_slotsOf_25 : decode cX5_slotsOf 25 = .ok (.ifCond .eq 9, 3) := by decide +kernel
theorem dX5_slotsOf_28 : decode cX5_slotsOf 28 = .ok (.iload_n 3, 1) := by decide +kernel
theorem dX5_slotsOf_29 : decode cX5_slotsOf 29 = .ok (.iconst 1, 1) := by decide +kernel
theorem dX5_slotsOf_30 : decode cX5_slotsOf 30 = .ok (.iadd, 1) := by decide +kernel
theorem dX5_slotsOf_31 : decode cX5_slotsOf 31 = .ok (.goto 4, 3) := by decide +kernel
theorem dX5_slotsOf_34 : decode cX5_slotsOf 34 = .ok (.iload_n 2, 1) := by decide +kernel
theorem dX5_slotsOf_35 : decode cX5_slotsOf 35 = .ok (.istore_n 2, 1) := by decide +kernel
theorem dX5_slotsOf_36 : decode cX5_slotsOf 36 = .ok (.iinc 3 1, 3) := by decide +kernel
theorem dX5_slotsOf_39 : decode cX5_slotsOf 39 = .ok (.goto (-35), 3) := by decide +kernel
theorem dX5_slotsOf_42 : decode cX5_slotsOf 42 = .ok (.iload_n 2, 1) := by decide +kernel
theorem dX5_slotsOf_43 : decode cX5_slotsOf 43 = .ok (.ireturn, 1) := by decide +kernel
theorem dX5_thingsOn_0 : decode cX5_thingsOn 0 = .ok (.iconst 0, 1) := by decide +kernel
theorem dX5_thingsOn_1 : decode cX5_thingsOn 1 = .ok (.istore_n 3, 1) := by decide +kernel
theorem dX5_thingsOn_2 : decode cX5_thingsOn 2 = .ok (.iconst 0, 1) := by decide +kernel
theorem dX5_thingsOn_3 : decode cX5_thingsOn 3 = .ok (.istore 4, 2) := by decide +kernel
theorem dX5_thingsOn_5 : decode cX5_thingsOn 5 = .ok (.iload 4, 2) := by decide +kernel
theorem dX5_thingsOn_7 : decode cX5_thingsOn 7 = .ok (.bipush 40, 2) := by decide +kernel
theorem dX5_thingsOn_9 : decode cX5_thingsOn 9 = .ok (.if_icmp .ge 53, 3) := by decide +kernel
theorem dX5_thingsOn_12 : decode cX5_thingsOn 12 = .ok (.aload_n 0, 1) := by decide +kernel
theorem dX5_thingsOn_13 : decode cX5_thingsOn 13 = .ok (.getfield 7, 3) := by decide +kernel
theorem dX5_thingsOn_16 : decode cX5_thingsOn 16 = .ok (.sipush 363, 3) := by decide +kernel
theorem dX5_thingsOn_19 : decode cX5_thingsOn 19 = .ok (.bipush 40, 2) := by decide +kernel
theorem dX5_thingsOn_21 : decode cX5_thingsOn 21 = .ok (.iload_n 1, 1) := by decide +kernel
theorem dX5_thingsOn_22 : decode cX5_thingsOn 22 = .ok (.imul, 1) := by decide +kernel
theorem dX5_thingsOn_23 : decode cX5_thingsOn 23 = .ok (.iadd, 1) := by decide +kernel
theorem dX5_thingsOn_24 : decode cX5_thingsOn 24 = .ok (.iload 4, 2) := by decide +kernel
theorem dX5_thingsOn_26 : decode cX5_thingsOn 26 = .ok (.iadd, 1) := by decide +kernel
theorem dX5_thingsOn_27 : decode cX5_thingsOn 27 = .ok (.iaload, 1) := by decide +kernel
theorem dX5_thingsOn_28 : decode cX5_thingsOn 28 = .ok (.istore 5, 2) := by decide +kernel
theorem dX5_thingsOn_30 : decode cX5_thingsOn 30 = .ok (.iload_n 3, 1) := by decide +kernel
theorem dX5_thingsOn_31 : decode cX5_thingsOn 31 = .ok (.iload 5, 2) := by decide +kernel
theorem dX5_thingsOn_33 : decode cX5_thingsOn 33 = .ok (.ifCond .eq 20, 3) := by decide +kernel
theorem dX5_thingsOn_36 : decode cX5_thingsOn 36 = .ok (.iload_n 2, 1) := by decide +kernel
theorem dX5_thingsOn_37 : decode cX5_thingsOn 37 = .ok (.ifCond .eq 12, 3) := by decide +kernel
theorem dX5_thingsOn_40 : decode cX5_thingsOn 40 = .ok (.iload 5, 2) := by decide +kernel
theorem dX5_thingsOn_42 : decode cX5_thingsOn 42 = .ok (.invokestatic 45, 3) := by decide +kernel
theorem dX5_thingsOn_45 : decode cX5_thingsOn 45 = .ok (.iload_n 2, 1) := by decide +kernel
theorem dX5_thingsOn_46 : decode cX5_thingsOn 46 = .ok (.if_icmp .ne 7, 3) := by decide +kernel
theorem dX5_thingsOn_49 : decode cX5_thingsOn 49 = .ok (.iconst 1, 1) := by decide +kernel
theorem dX5_thingsOn_50 : decode cX5_thingsOn 50 = .ok (.goto 4, 3) := by decide +kernel
theorem dX5_thingsOn_53 : decode cX5_thingsOn 53 = .ok (.iconst 0, 1) := by decide +kernel
theorem dX5_thingsOn_54 : decode cX5_thingsOn 54 = .ok (.iadd, 1) := by decide +kernel
theorem dX5_thingsOn_55 : decode cX5_thingsOn 55 = .ok (.istore_n 3, 1) := by decide +kernel
theorem dX5_thingsOn_56 : decode cX5_thingsOn 56 = .ok (.iinc 4 1, 3) := by decide +kernel
theorem dX5_thingsOn_59 : decode cX5_thingsOn 59 = .ok (.goto (-54), 3) := by decide +kernel
theorem dX5_thingsOn_62 : decode cX5_thingsOn 62 = .ok (.iload_n 3, 1) := by decide +kernel
theorem dX5_thingsOn_63 : decode cX5_thingsOn 63 = .ok (.ireturn, 1) := by decide +kernel
theorem dX5_lowestEmpty_0 : decode cX5_lowestEmpty 0 = .ok (.bipush (-6), 2) := by decide +kernel
theorem dX5_lowestEmpty_2 : decode cX5_lowestEmpty 2 = .ok (.istore_n 2, 1) := by decide +kernel
theorem dX5_lowestEmpty_3 : decode cX5_lowestEmpty 3 = .ok (.bipush 39, 2) := by decide +kernel
theorem dX5_lowestEmpty_5 : decode cX5_lowestEmpty 5 = .ok (.istore_n 3, 1) := by decide +kernel
theorem dX5_lowestEmpty_6 : decode cX5_lowestEmpty 6 = .ok (.iload_n 3, 1) := by decide +kernel
theorem dX5_lowestEmpty_7 : decode cX5_lowestEmpty 7 = .ok (.ifCond .lt 33, 3) := by decide +kernel
theorem dX5_lowestEmpty_10 : decode cX5_lowestEmpty 10 = .ok (.aload_n 0, 1) := by decide +kernel
theorem dX5_lowestEmpty_11 : decode cX5_lowestEmpty 11 = .ok (.getfield 7, 3) := by decide +kernel
theorem dX5_lowestEmpty_14 : decode cX5_lowestEmpty 14 = .ok (.sipush 363, 3) := by decide +kernel
theorem dX5_lowestEmpty_17 : decode cX5_lowestEmpty 17 = .ok (.bipush 40, 2) := by decide +kernel
theorem dX5_lowestEmpty_19 : decode cX5_lowestEmpty 19 = .ok (.iload_n 1, 1) := by decide +kernel
theorem dX5_lowestEmpty_20 : decode cX5_lowestEmpty 20 = .ok (.imul, 1) := by decide +kernel
theorem dX5_lowestEmpty_21 : decode cX5_lowestEmpty 21 = .ok (.iadd, 1) := by decide +kernel
theorem dX5_lowestEmpty_22 : decode cX5_lowestEmpty 22 = .ok (.iload_n 3, 1) := by decide +kernel
theorem dX5_lowestEmpty_23 : decode cX5_lowestEmpty 23 = .ok (.iadd, 1) := by decide +kernel
theorem dX5_lowestEmpty_24 : decode cX5_lowestEmpty 24 = .ok (.iaload, 1) := by decide +kernel
theorem dX5_lowestEmpty_25 : decode cX5_lowestEmpty 25 = .ok (.ifCond .ne 7, 3) := by decide +kernel
theorem dX5_lowestEmpty_28 : decode cX5_lowestEmpty 28 = .ok (.iload_n 3, 1) := by decide +kernel
theorem dX5_lowestEmpty_29 : decode cX5_lowestEmpty 29 = .ok (.goto 4, 3) := by decide +kernel
theorem dX5_lowestEmpty_32 : decode cX5_lowestEmpty 32 = .ok (.iload_n 2, 1) := by decide +kernel
theorem dX5_lowestEmpty_33 : decode cX5_lowestEmpty 33 = .ok (.istore_n 2, 1) := by decide +kernel
theorem dX5_lowestEmpty_34 : decode cX5_lowestEmpty 34 = .ok (.iinc 3 (-1), 3) := by decide +kernel
theorem dX5_lowestEmpty_37 : decode cX5_lowestEmpty 37 = .ok (.goto (-31), 3) := by decide +kernel
theorem dX5_lowestEmpty_40 : decode cX5_lowestEmpty 40 = .ok (.iload_n 2, 1) := by decide +kernel
theorem dX5_lowestEmpty_41 : decode cX5_lowestEmpty 41 = .ok (.ireturn, 1) := by decide +kernel
theorem dX5_placed_0 : decode cX5_placed 0 = .ok (.iconst 0, 1) := by decide +kernel
theorem dX5_placed_1 : decode cX5_placed 1 = .ok (.istore_n 2, 1) := by decide +kernel
theorem dX5_placed_2 : decode cX5_placed 2 = .ok (.iload_n 2, 1) := by decide +kernel
theorem dX5_placed_3 : decode cX5_placed 3 = .ok (.bipush 10, 2) := by decide +kernel
theorem dX5_placed_5 : decode cX5_placed 5 = .ok (.if_icmp .ge 45, 3) := by decide +kernel
theorem dX5_placed_8 : decode cX5_placed 8 = .ok (.aload_n 0, 1) := by decide +kernel
theorem dX5_placed_9 : decode cX5_placed 9 = .ok (.iload_n 2, 1) := by decide +kernel
theorem dX5_placed_10 : decode cX5_placed 10 = .ok (.invokevirtual 55, 3) := by decide +kernel
theorem dX5_placed_13 : decode cX5_placed 13 = .ok (.iload_n 1, 1) := by decide +kernel
theorem dX5_placed_14 : decode cX5_placed 14 = .ok (.invokestatic 52, 3) := by decide +kernel
theorem dX5_placed_17 : decode cX5_placed 17 = .ok (.if_icmp .lt 27, 3) := by decide +kernel
theorem dX5_placed_20 : decode cX5_placed 20 = .ok (.bipush 40, 2) := by decide +kernel
theorem dX5_placed_22 : decode cX5_placed 22 = .ok (.iload_n 2, 1) := by decide +kernel
theorem dX5_placed_23 : decode cX5_placed 23 = .ok (.imul, 1) := by decide +kernel
theorem dX5_placed_24 : decode cX5_placed 24 = .ok (.aload_n 0, 1) := by decide +kernel
theorem dX5_placed_25 : decode cX5_placed 25 = .ok (.iload_n 2, 1) := by decide +kernel
theorem dX5_placed_26 : decode cX5_placed 26 = .ok (.invokevirtual 58, 3) := by decide +kernel
theorem dX5_placed_29 : decode cX5_placed 29 = .ok (.iadd, 1) := by decide +kernel
theorem dX5_placed_30 : decode cX5_placed 30 = .ok (.istore_n 3, 1) := by decide +kernel
theorem dX5_placed_31 : decode cX5_placed 31 = .ok (.aload_n 0, 1) := by decide +kernel
theorem dX5_placed_32 : decode cX5_placed 32 = .ok (.getfield 7, 3) := by decide +kernel
theorem dX5_placed_35 : decode cX5_placed 35 = .ok (.sipush 363, 3) := by decide +kernel
theorem dX5_placed_38 : decode cX5_placed 38 = .ok (.iload_n 3, 1) := by decide +kernel
theorem dX5_placed_39 : decode cX5_placed 39 = .ok (.iadd, 1) := by decide +kernel
theorem dX5_placed_40 : decode cX5_placed 40 = .ok (.iload_n 1, 1) := by decide +kernel
theorem dX5_placed_41 : decode cX5_placed 41 = .ok (.iastore, 1) := by decide +kernel
theorem dX5_placed_42 : decode cX5_placed 42 = .ok (.iload_n 3, 1) := by decide +kernel
theorem dX5_placed_43 : decode cX5_placed 43 = .ok (.ireturn, 1) := by decide +kernel
theorem dX5_placed_44 : decode cX5_placed 44 = .ok (.iinc 2 1, 3) := by decide +kernel
theorem dX5_placed_47 : decode cX5_placed 47 = .ok (.goto (-45), 3) := by decide +kernel
theorem dX5_placed_50 : decode cX5_placed 50 = .ok (.bipush (-6), 2) := by decide +kernel
theorem dX5_placed_52 : decode cX5_placed 52 = .ok (.ireturn, 1) := by decide +kernel
theorem dX5_part_0 : decode cX5_part 0 = .ok (.aload_n 0, 1) := by decide +kernel
theorem dX5_part_1 : decode cX5_part 1 = .ok (.getfield 7, 3) := by decide +kernel
theorem dX5_part_4 : decode cX5_part 4 = .ok (.iconst 3, 1) := by decide +kernel
theorem dX5_part_5 : decode cX5_part 5 = .ok (.bipush 12, 2) := by decide +kernel
theorem dX5_part_7 : decode cX5_part 7 = .ok (.iload_n 1, 1) := by decide +kernel
theorem dX5_part_8 : decode cX5_part 8 = .ok (.imul, 1) := by decide +kernel
theorem dX5_part_9 : decode cX5_part 9 = .ok (.iadd, 1) := by decide +kernel
theorem dX5_part_10 : decode cX5_part 10 = .ok (.iload_n 2, 1) := by decide +kernel
theorem dX5_part_11 : decode cX5_part 11 = .ok (.iadd, 1) := by decide +kernel
theorem dX5_part_12 : decode cX5_part 12 = .ok (.iaload, 1) := by decide +kernel
theorem dX5_part_13 : decode cX5_part 13 = .ok (.ireturn, 1) := by decide +kernel
theorem dX5_setPart_0 : decode cX5_setPart 0 = .ok (.aload_n 0, 1) := by decide +kernel
theorem dX5_setPart_1 : decode cX5_setPart 1 = .ok (.getfield 7, 3) := by decide +kernel
theorem dX5_setPart_4 : decode cX5_setPart 4 = .ok (.iconst 3, 1) := by decide +kernel
theorem dX5_setPart_5 : decode cX5_setPart 5 = .ok (.bipush 12, 2) := by decide +kernel
theorem dX5_setPart_7 : decode cX5_setPart 7 = .ok (.iload_n 1, 1) := by decide +kernel
theorem dX5_setPart_8 : decode cX5_setPart 8 = .ok (.imul, 1) := by decide +kernel
theorem dX5_setPart_9 : decode cX5_setPart 9 = .ok (.iadd, 1) := by decide +kernel
theorem dX5_setPart_10 : decode cX5_setPart 10 = .ok (.iload_n 2, 1) := by decide +kernel
theorem dX5_setPart_11 : decode cX5_setPart 11 = .ok (.iadd, 1) := by decide +kernel
theorem dX5_setPart_12 : decode cX5_setPart 12 = .ok (.iload_n 3, 1) := by decide +kernel
theorem dX5_setPart_13 : decode cX5_setPart 13 = .ok (.iastore, 1) := by decide +kernel
theorem dX5_setPart_14 : decode cX5_setPart 14 = .ok (.return_, 1) := by decide +kernel
theorem dX5_rowWith_0 : decode cX5_rowWith 0 = .ok (.bipush (-6), 2) := by decide +kernel
theorem dX5_rowWith_2 : decode cX5_rowWith 2 = .ok (.istore_n 2, 1) := by decide +kernel
theorem dX5_rowWith_3 : decode cX5_rowWith 3 = .ok (.iconst 0, 1) := by decide +kernel
theorem dX5_rowWith_4 : decode cX5_rowWith 4 = .ok (.istore_n 3, 1) := by decide +kernel
theorem dX5_rowWith_5 : decode cX5_rowWith 5 = .ok (.iload_n 3, 1) := by decide +kernel
theorem dX5_rowWith_6 : decode cX5_rowWith 6 = .ok (.bipush 30, 2) := by decide +kernel
theorem dX5_rowWith_8 : decode cX5_rowWith 8 = .ok (.if_icmp .ge 35, 3) := by decide +kernel
theorem dX5_rowWith_11 : decode cX5_rowWith 11 = .ok (.aload_n 0, 1) := by decide +kernel
theorem dX5_rowWith_12 : decode cX5_rowWith 12 = .ok (.iload_n 3, 1) := by decide +kernel
theorem dX5_rowWith_13 : decode cX5_rowWith 13 = .ok (.iconst 0, 1) := by decide +kernel
theorem dX5_rowWith_14 : decode cX5_rowWith 14 = .ok (.invokevirtual 61, 3) := by decide +kernel
theorem dX5_rowWith_17 : decode cX5_rowWith 17 = .ok (.iconst 1, 1) := by decide +kernel
theorem dX5_rowWith_18 : decode cX5_rowWith 18 = .ok (.if_icmp .ne 17, 3) := by decide +kernel
theorem dX5_rowWith_21 : decode cX5_rowWith 21 = .ok (.aload_n 0, 1) := by decide +kernel
theorem dX5_rowWith_22 : decode cX5_rowWith 22 = .ok (.iload_n 3, 1) := by decide +kernel
theorem dX5_rowWith_23 : decode cX5_rowWith 23 = .ok (.iconst 1, 1) := by decide +kernel
theorem dX5_rowWith_24 : decode cX5_rowWith 24 = .ok (.invokevirtual 61, 3) := by decide +kernel
theorem dX5_rowWith_27 : decode cX5_rowWith 27 = .ok (.iload_n 1, 1) := by decide +kernel
theorem dX5_rowWith_28 : decode cX5_rowWith 28 = .ok (.if_icmp .ne 7, 3) := by decide +kernel
theorem dX5_rowWith_31 : decode cX5_rowWith 31 = .ok (.iload_n 3, 1) := by decide +kernel
theorem dX5_rowWith_32 : decode cX5_rowWith 32 = .ok (.goto 4, 3) := by decide +kernel
theorem dX5_rowWith_35 : decode cX5_rowWith 35 = .ok (.iload_n 2, 1) := by decide +kernel
theorem dX5_rowWith_36 : decode cX5_rowWith 36 = .ok (.istore_n 2, 1) := by decide +kernel
theorem dX5_rowWith_37 : decode cX5_rowWith 37 = .ok (.iinc 3 1, 3) := by decide +kernel
theorem dX5_rowWith_40 : decode cX5_rowWith 40 = .ok (.goto (-35), 3) := by decide +kernel
theorem dX5_rowWith_43 : decode cX5_rowWith 43 = .ok (.iload_n 2, 1) := by decide +kernel
theorem dX5_rowWith_44 : decode cX5_rowWith 44 = .ok (.ireturn, 1) := by decide +kernel
theorem dX5_letterAt_0 : decode cX5_letterAt 0 = .ok (.aload_n 0, 1) := by decide +kernel
theorem dX5_letterAt_1 : decode cX5_letterAt 1 = .ok (.iload_n 1, 1) := by decide +kernel
theorem dX5_letterAt_2 : decode cX5_letterAt 2 = .ok (.iconst 5, 1) := by decide +kernel
theorem dX5_letterAt_3 : decode cX5_letterAt 3 = .ok (.iload_n 2, 1) := by decide +kernel
theorem dX5_letterAt_4 : decode cX5_letterAt 4 = .ok (.bipush 6, 2) := by decide +kernel
theorem dX5_letterAt_6 : decode cX5_letterAt 6 = .ok (.idiv, 1) := by decide +kernel
theorem dX5_letterAt_7 : decode cX5_letterAt 7 = .ok (.iadd, 1) := by decide +kernel
theorem dX5_letterAt_8 : decode cX5_letterAt 8 = .ok (.invokevirtual 61, 3) := by decide +kernel
theorem dX5_letterAt_11 : decode cX5_letterAt 11 = .ok (.iconst 5, 1) := by decide +kernel
theorem dX5_letterAt_12 : decode cX5_letterAt 12 = .ok (.iload_n 2, 1) := by decide +kernel
theorem dX5_letterAt_13 : decode cX5_letterAt 13 = .ok (.bipush 6, 2) := by decide +kernel
theorem dX5_letterAt_15 : decode cX5_letterAt 15 = .ok (.irem, 1) := by decide +kernel
theorem dX5_letterAt_16 : decode cX5_letterAt 16 = .ok (.imul, 1) := by decide +kernel
theorem dX5_letterAt_17 : decode cX5_letterAt 17 = .ok (.ishr, 1) := by decide +kernel
theorem dX5_letterAt_18 : decode cX5_letterAt 18 = .ok (.bipush 31, 2) := by decide +kernel
theorem dX5_letterAt_20 : decode cX5_letterAt 20 = .ok (.iand, 1) := by decide +kernel
theorem dX5_letterAt_21 : decode cX5_letterAt 21 = .ok (.ireturn, 1) := by decide +kernel
theorem dX5_hasMoved_0 : decode cX5_hasMoved 0 = .ok (.aload_n 0, 1) := by decide +kernel
theorem dX5_hasMoved_1 : decode cX5_hasMoved 1 = .ok (.iload_n 1, 1) := by decide +kernel
theorem dX5_hasMoved_2 : decode cX5_hasMoved 2 = .ok (.iconst 3, 1) := by decide +kernel
theorem dX5_hasMoved_3 : decode cX5_hasMoved 3 = .ok (.invokevirtual 61, 3) := by decide +kernel
theorem dX5_hasMoved_6 : decode cX5_hasMoved 6 = .ok (.aload_n 0, 1) := by decide +kernel
theorem dX5_hasMoved_7 : decode cX5_hasMoved 7 = .ok (.iload_n 1, 1) := by decide +kernel
theorem dX5_hasMoved_8 : decode cX5_hasMoved 8 = .ok (.iconst 4, 1) := by decide +kernel
theorem dX5_hasMoved_9 : decode cX5_hasMoved 9 = .ok (.invokevirtual 61, 3) := by decide +kernel
theorem dX5_hasMoved_12 : decode cX5_hasMoved 12 = .ok (.if_icmp .eq 7, 3) := by decide +kernel
theorem dX5_hasMoved_15 : decode cX5_hasMoved 15 = .ok (.iconst 1, 1) := by decide +kernel
theorem dX5_hasMoved_16 : decode cX5_hasMoved 16 = .ok (.goto 4, 3) := by decide +kernel
theorem dX5_hasMoved_19 : decode cX5_hasMoved 19 = .ok (.iconst 0, 1) := by decide +kernel
theorem dX5_hasMoved_20 : decode cX5_hasMoved 20 = .ok (.ireturn, 1) := by decide +kernel
theorem dX5_findPieces_0 : decode cX5_findPieces 0 = .ok (.aload_n 0, 1) := by decide +kernel
theorem dX5_findPieces_1 : decode cX5_findPieces 1 = .ok (.iconst 0, 1) := by decide +kernel
theorem dX5_findPieces_2 : decode cX5_findPieces 2 = .ok (.putfield 65, 3) := by decide +kernel
theorem dX5_findPieces_5 : decode cX5_findPieces 5 = .ok (.iconst 0, 1) := by decide +kernel
theorem dX5_findPieces_6 : decode cX5_findPieces 6 = .ok (.istore_n 2, 1) := by decide +kernel
theorem dX5_findPieces_7 : decode cX5_findPieces 7 = .ok (.iload_n 2, 1) := by decide +kernel
theorem dX5_findPieces_8 : decode cX5_findPieces 8 = .ok (.sipush 400, 3) := by decide +kernel
theorem dX5_findPieces_11 : decode cX5_findPieces 11 = .ok (.if_icmp .ge 56, 3) := by decide +kernel
theorem dX5_findPieces_14 : decode cX5_findPieces 14 = .ok (.aload_n 0, 1) := by decide +kernel
theorem dX5_findPieces_15 : decode cX5_findPieces 15 = .ok (.getfield 7, 3) := by decide +kernel
theorem dX5_findPieces_18 : decode cX5_findPieces 18 = .ok (.sipush 363, 3) := by decide +kernel
theorem dX5_findPieces_21 : decode cX5_findPieces 21 = .ok (.iload_n 2, 1) := by decide +kernel
theorem dX5_findPieces_22 : decode cX5_findPieces 22 = .ok (.iadd, 1) := by decide +kernel
theorem dX5_findPieces_23 : decode cX5_findPieces 23 = .ok (.iaload, 1) := by decide +kernel
theorem dX5_findPieces_24 : decode cX5_findPieces 24 = .ok (.istore_n 3, 1) := by decide +kernel
theorem dX5_findPieces_25 : decode cX5_findPieces 25 = .ok (.iload_n 3, 1) := by decide +kernel
theorem dX5_findPieces_26 : decode cX5_findPieces 26 = .ok (.invokestatic 45, 3) := by decide +kernel
theorem dX5_findPieces_29 : decode cX5_findPieces 29 = .ok (.iconst 2, 1) := by decide +kernel
theorem dX5_findPieces_30 : decode cX5_findPieces 30 = .ok (.if_icmp .ne 31, 3) := by decide +kernel
theorem dX5_findPieces_33 : decode cX5_findPieces 33 = .ok (.iload_n 3, 1) := by decide +kernel
theorem dX5_findPieces_34 : decode cX5_findPieces 34 = .ok (.invokestatic 68, 3) := by decide +kernel
theorem dX5_findPieces_37 : decode cX5_findPieces 37 = .ok (.iload_n 1, 1) := by decide +kernel
theorem dX5_findPieces_38 : decode cX5_findPieces 38 = .ok (.if_icmp .ne 23, 3) := by decide +kernel
theorem dX5_findPieces_41 : decode cX5_findPieces 41 = .ok (.aload_n 0, 1) := by decide +kernel
theorem dX5_findPieces_42 : decode cX5_findPieces 42 = .ok (.getfield 34, 3) := by decide +kernel
theorem dX5_findPieces_45 : decode cX5_findPieces 45 = .ok (.iload_n 3, 1) := by decide +kernel
theorem dX5_findPieces_46 : decode cX5_findPieces 46 = .ok (.invokestatic 71, 3) := by decide +kernel
theorem dX5_findPieces_49 : decode cX5_findPieces 49 = .ok (.iload_n 2, 1) := by decide +kernel
theorem dX5_findPieces_50 : decode cX5_findPieces 50 = .ok (.iastore, 1) := by decide +kernel
theorem dX5_findPieces_51 : decode cX5_findPieces 51 = .ok (.aload_n 0, 1) := by decide +kernel
theorem dX5_findPieces_52 : decode cX5_findPieces 52 = .ok (.dup, 1) := by decide +kernel
theorem dX5_findPieces_53 : decode cX5_findPieces 53 = .ok (.getfield 65, 3) := by decide +kernel
theorem dX5_findPieces_56 : decode cX5_findPieces 56 = .ok (.iconst 1, 1) := by decide +kernel
theorem dX5_findPieces_57 : decode cX5_findPieces 57 = .ok (.iadd, 1) := by decide +kernel
theorem dX5_findPieces_58 : decode cX5_findPieces 58 = .ok (.putfield 65, 3) := by decide +kernel
theorem dX5_findPieces_61 : decode cX5_findPieces 61 = .ok (.iinc 2 1, 3) := by decide +kernel
theorem dX5_findPieces_64 : decode cX5_findPieces 64 = .ok (.goto (-57), 3) := by decide +kernel
theorem dX5_findPieces_67 : decode cX5_findPieces 67 = .ok (.return_, 1) := by decide +kernel
theorem dX5_dropPieces_0 : decode cX5_dropPieces 0 = .ok (.aload_n 0, 1) := by decide +kernel
theorem dX5_dropPieces_1 : decode cX5_dropPieces 1 = .ok (.iload_n 1, 1) := by decide +kernel
theorem dX5_dropPieces_2 : decode cX5_dropPieces 2 = .ok (.invokevirtual 74, 3) := by decide +kernel
theorem dX5_dropPieces_5 : decode cX5_dropPieces 5 = .ok (.iconst 0, 1) := by decide +kernel
theorem dX5_dropPieces_6 : decode cX5_dropPieces 6 = .ok (.istore_n 2, 1) := by decide +kernel
theorem dX5_dropPieces_7 : decode cX5_dropPieces 7 = .ok (.iload_n 2, 1) := by decide +kernel
theorem dX5_dropPieces_8 : decode cX5_dropPieces 8 = .ok (.aload_n 0, 1) := by decide +kernel
theorem dX5_dropPieces_9 : decode cX5_dropPieces 9 = .ok (.getfield 65, 3) := by decide +kernel
theorem dX5_dropPieces_12 : decode cX5_dropPieces 12 = .ok (.if_icmp .ge 25, 3) := by decide +kernel
theorem dX5_dropPieces_15 : decode cX5_dropPieces 15 = .ok (.aload_n 0, 1) := by decide +kernel
theorem dX5_dropPieces_16 : decode cX5_dropPieces 16 = .ok (.getfield 7, 3) := by decide +kernel
theorem dX5_dropPieces_19 : decode cX5_dropPieces 19 = .ok (.sipush 363, 3) := by decide +kernel
theorem dX5_dropPieces_22 : decode cX5_dropPieces 22 = .ok (.aload_n 0, 1) := by decide +kernel
theorem dX5_dropPieces_23 : decode cX5_dropPieces 23 = .ok (.getfield 34, 3) := by decide +kernel
theorem dX5_dropPieces_26 : decode cX5_dropPieces 26 = .ok (.iload_n 2, 1) := by decide +kernel
theorem dX5_dropPieces_27 : decode cX5_dropPieces 27 = .ok (.iaload, 1) := by decide +kernel
theorem dX5_dropPieces_28 : decode cX5_dropPieces 28 = .ok (.iadd, 1) := by decide +kernel
theorem dX5_dropPieces_29 : decode cX5_dropPieces 29 = .ok (.iconst 0, 1) := by decide +kernel
theorem dX5_dropPieces_30 : decode cX5_dropPieces 30 = .ok (.iastore, 1) := by decide +kernel
theorem dX5_dropPieces_31 : decode cX5_dropPieces 31 = .ok (.iinc 2 1, 3) := by decide +kernel
theorem dX5_dropPieces_34 : decode cX5_dropPieces 34 = .ok (.goto (-27), 3) := by decide +kernel
theorem dX5_dropPieces_37 : decode cX5_dropPieces 37 = .ok (.return_, 1) := by decide +kernel
theorem dX5_headOf_0 : decode cX5_headOf 0 = .ok (.aload_n 0, 1) := by decide +kernel
theorem dX5_headOf_1 : decode cX5_headOf 1 = .ok (.getfield 7, 3) := by decide +kernel
theorem dX5_headOf_4 : decode cX5_headOf 4 = .ok (.sipush 363, 3) := by decide +kernel
theorem dX5_headOf_7 : decode cX5_headOf 7 = .ok (.aload_n 0, 1) := by decide +kernel
theorem dX5_headOf_8 : decode cX5_headOf 8 = .ok (.iload_n 1, 1) := by decide +kernel
theorem dX5_headOf_9 : decode cX5_headOf 9 = .ok (.iconst 4, 1) := by decide +kernel
theorem dX5_headOf_10 : decode cX5_headOf 10 = .ok (.invokevirtual 61, 3) := by decide +kernel
theorem dX5_headOf_13 : decode cX5_headOf 13 = .ok (.iadd, 1) := by decide +kernel
theorem dX5_headOf_14 : decode cX5_headOf 14 = .ok (.iaload, 1) := by decide +kernel
theorem dX5_headOf_15 : decode cX5_headOf 15 = .ok (.ireturn, 1) := by decide +kernel
theorem dX5_costOf_0 : decode cX5_costOf 0 = .ok (.aload_n 0, 1) := by decide +kernel
theorem dX5_costOf_1 : decode cX5_costOf 1 = .ok (.iload_n 1, 1) := by decide +kernel
theorem dX5_costOf_2 : decode cX5_costOf 2 = .ok (.invokevirtual 74, 3) := by decide +kernel
theorem dX5_costOf_5 : decode cX5_costOf 5 = .ok (.aload_n 0, 1) := by decide +kernel
theorem dX5_costOf_6 : decode cX5_costOf 6 = .ok (.iload_n 1, 1) := by decide +kernel
theorem dX5_costOf_7 : decode cX5_costOf 7 = .ok (.iconst 3, 1) := by decide +kernel
theorem dX5_costOf_8 : decode cX5_costOf 8 = .ok (.invokevirtual 61, 3) := by decide +kernel
theorem dX5_costOf_11 : decode cX5_costOf 11 = .ok (.bipush 40, 2) := by decide +kernel
theorem dX5_costOf_13 : decode cX5_costOf 13 = .ok (.idiv, 1) := by decide +kernel
theorem dX5_costOf_14 : decode cX5_costOf 14 = .ok (.istore_n 2, 1) := by decide +kernel
theorem dX5_costOf_15 : decode cX5_costOf 15 = .ok (.iconst 1, 1) := by decide +kernel
theorem dX5_costOf_16 : decode cX5_costOf 16 = .ok (.istore_n 3, 1) := by decide +kernel
theorem dX5_costOf_17 : decode cX5_costOf 17 = .ok (.iconst (-1), 1) := by decide +kernel
theorem dX5_costOf_18 : decode cX5_costOf 18 = .ok (.istore 4, 2) := by decide +kernel
theorem dX5_costOf_20 : decode cX5_costOf 20 = .ok (.iload 4, 2) := by decide +kernel
theorem dX5_costOf_22 : decode cX5_costOf 22 = .ok (.aload_n 0, 1) := by decide +kernel
theorem dX5_costOf_23 : decode cX5_costOf 23 = .ok (.getfield 65, 3) := by decide +kernel
theorem dX5_costOf_26 : decode cX5_costOf 26 = .ok (.if_icmp .ge 52, 3) := by decide +kernel
theorem dX5_costOf_29 : decode cX5_costOf 29 = .ok (.iload 4, 2) := by decide +kernel
theorem dX5_costOf_31 : decode cX5_costOf 31 = .ok (.ifCond .ge 12, 3) := by decide +kernel
theorem dX5_costOf_34 : decode cX5_costOf 34 = .ok (.aload_n 0, 1) := by decide +kernel
theorem dX5_costOf_35 : decode cX5_costOf 35 = .ok (.iload_n 1, 1) := by decide +kernel
theorem dX5_costOf_36 : decode cX5_costOf 36 = .ok (.iconst 4, 1) := by decide +kernel
theorem dX5_costOf_37 : decode cX5_costOf 37 = .ok (.invokevirtual 61, 3) := by decide +kernel
theorem dX5_costOf_40 : decode cX5_costOf 40 = .ok (.goto 10, 3) := by decide +kernel
theorem dX5_costOf_43 : decode cX5_costOf 43 = .ok (.aload_n 0, 1) := by decide +kernel
theorem dX5_costOf_44 : decode cX5_costOf 44 = .ok (.getfield 34, 3) := by decide +kernel
theorem dX5_costOf_47 : decode cX5_costOf 47 = .ok (.iload 4, 2) := by decide +kernel
theorem dX5_costOf_49 : decode cX5_costOf 49 = .ok (.iaload, 1) := by decide +kernel
theorem dX5_costOf_50 : decode cX5_costOf 50 = .ok (.bipush 40, 2) := by decide +kernel
theorem dX5_costOf_52 : decode cX5_costOf 52 = .ok (.idiv, 1) := by decide +kernel
theorem dX5_costOf_53 : decode cX5_costOf 53 = .ok (.istore 5, 2) := by decide +kernel
theorem dX5_costOf_55 : decode cX5_costOf 55 = .ok (.iload_n 3, 1) := by decide +kernel
theorem dX5_costOf_56 : decode cX5_costOf 56 = .ok (.iload 5, 2) := by decide +kernel
theorem dX5_costOf_58 : decode cX5_costOf 58 = .ok (.iload_n 2, 1) := by decide +kernel
theorem dX5_costOf_59 : decode cX5_costOf 59 = .ok (.if_icmp .ne 7, 3) := by decide +kernel
theorem dX5_costOf_62 : decode cX5_costOf 62 = .ok (.iconst 0, 1) := by decide +kernel
theorem dX5_costOf_63 : decode cX5_costOf 63 = .ok (.goto 4, 3) := by decide +kernel
theorem dX5_costOf_66 : decode cX5_costOf 66 = .ok (.iconst 1, 1) := by decide +kernel
theorem dX5_costOf_67 : decode cX5_costOf 67 = .ok (.iadd, 1) := by decide +kernel
theorem dX5_costOf_68 : decode cX5_costOf 68 = .ok (.istore_n 3, 1) := by decide +kernel
theorem dX5_costOf_69 : decode cX5_costOf 69 = .ok (.iload 5, 2) := by decide +kernel
theorem dX5_costOf_71 : decode cX5_costOf 71 = .ok (.istore_n 2, 1) := by decide +kernel
theorem dX5_costOf_72 : decode cX5_costOf 72 = .ok (.iinc 4 1, 3) := by decide +kernel
theorem dX5_costOf_75 : decode cX5_costOf 75 = .ok (.goto (-55), 3) := by decide +kernel
theorem dX5_costOf_78 : decode cX5_costOf 78 = .ok (.iload_n 3, 1) := by decide +kernel
theorem dX5_costOf_79 : decode cX5_costOf 79 = .ok (.ireturn, 1) := by decide +kernel
theorem dX5_cellsOfRow_0 : decode cX5_cellsOfRow 0 = .ok (.aload_n 0, 1) := by decide +kernel
theorem dX5_cellsOfRow_1 : decode cX5_cellsOfRow 1 = .ok (.iload_n 1, 1) := by decide +kernel
theorem dX5_cellsOfRow_2 : decode cX5_cellsOfRow 2 = .ok (.invokevirtual 74, 3) := by decide +kernel
theorem dX5_cellsOfRow_5 : decode cX5_cellsOfRow 5 = .ok (.aload_n 0, 1) := by decide +kernel
theorem dX5_cellsOfRow_6 : decode cX5_cellsOfRow 6 = .ok (.iload_n 1, 1) := by decide +kernel
theorem dX5_cellsOfRow_7 : decode cX5_cellsOfRow 7 = .ok (.invokevirtual 78, 3) := by decide +kernel
theorem dX5_cellsOfRow_10 : decode cX5_cellsOfRow 10 = .ok (.invokestatic 52, 3) := by decide +kernel
theorem dX5_cellsOfRow_13 : decode cX5_cellsOfRow 13 = .ok (.aload_n 0, 1) := by decide +kernel
theorem dX5_cellsOfRow_14 : decode cX5_cellsOfRow 14 = .ok (.iload_n 1, 1) := by decide +kernel
theorem dX5_cellsOfRow_15 : decode cX5_cellsOfRow 15 = .ok (.invokevirtual 81, 3) := by decide +kernel
theorem dX5_cellsOfRow_18 : decode cX5_cellsOfRow 18 = .ok (.ifCond .eq 7, 3) := by decide +kernel
theorem dX5_cellsOfRow_21 : decode cX5_cellsOfRow 21 = .ok (.iconst 1, 1) := by decide +kernel
theorem dX5_cellsOfRow_22 : decode cX5_cellsOfRow 22 = .ok (.goto 4, 3) := by decide +kernel
theorem dX5_cellsOfRow_25 : decode cX5_cellsOfRow 25 = .ok (.iconst 0, 1) := by decide +kernel
theorem dX5_cellsOfRow_26 : decode cX5_cellsOfRow 26 = .ok (.iadd, 1) := by decide +kernel
theorem dX5_cellsOfRow_27 : decode cX5_cellsOfRow 27 = .ok (.istore_n 2, 1) := by decide +kernel
theorem dX5_cellsOfRow_28 : decode cX5_cellsOfRow 28 = .ok (.iconst 0, 1) := by decide +kernel
theorem dX5_cellsOfRow_29 : decode cX5_cellsOfRow 29 = .ok (.istore_n 3, 1) := by decide +kernel
theorem dX5_cellsOfRow_30 : decode cX5_cellsOfRow 30 = .ok (.iload_n 3, 1) := by decide +kernel
theorem dX5_cellsOfRow_31 : decode cX5_cellsOfRow 31 = .ok (.aload_n 0, 1) := by decide +kernel
theorem dX5_cellsOfRow_32 : decode cX5_cellsOfRow 32 = .ok (.getfield 65, 3) := by decide +kernel
theorem dX5_cellsOfRow_35 : decode cX5_cellsOfRow 35 = .ok (.if_icmp .ge 30, 3) := by decide +kernel
theorem dX5_cellsOfRow_38 : decode cX5_cellsOfRow 38 = .ok (.iload_n 2, 1) := by decide +kernel
theorem dX5_cellsOfRow_39 : decode cX5_cellsOfRow 39 = .ok (.aload_n 0, 1) := by decide +kernel
theorem dX5_cellsOfRow_40 : decode cX5_cellsOfRow 40 = .ok (.getfield 7, 3) := by decide +kernel
theorem dX5_cellsOfRow_43 : decode cX5_cellsOfRow 43 = .ok (.sipush 363, 3) := by decide +kernel
theorem dX5_cellsOfRow_46 : decode cX5_cellsOfRow 46 = .ok (.aload_n 0, 1) := by decide +kernel
theorem dX5_cellsOfRow_47 : decode cX5_cellsOfRow 47 = .ok (.getfield 34, 3) := by decide +kernel
theorem dX5_cellsOfRow_50 : decode cX5_cellsOfRow 50 = .ok (.iload_n 3, 1) := by decide +kernel
theorem dX5_cellsOfRow_51 : decode cX5_cellsOfRow 51 = .ok (.iaload, 1) := by decide +kernel
theorem dX5_cellsOfRow_52 : decode cX5_cellsOfRow 52 = .ok (.iadd, 1) := by decide +kernel
theorem dX5_cellsOfRow_53 : decode cX5_cellsOfRow 53 = .ok (.iaload, 1) := by decide +kernel
theorem dX5_cellsOfRow_54 : decode cX5_cellsOfRow 54 = .ok (.invokestatic 52, 3) := by decide +kernel
theorem dX5_cellsOfRow_57 : decode cX5_cellsOfRow 57 = .ok (.iadd, 1) := by decide +kernel
theorem dX5_cellsOfRow_58 : decode cX5_cellsOfRow 58 = .ok (.istore_n 2, 1) := by decide +kernel
theorem dX5_cellsOfRow_59 : decode cX5_cellsOfRow 59 = .ok (.iinc 3 1, 3) := by decide +kernel
theorem dX5_cellsOfRow_62 : decode cX5_cellsOfRow 62 = .ok (.goto (-32), 3) := by decide +kernel
theorem dX5_cellsOfRow_65 : decode cX5_cellsOfRow 65 = .ok (.iload_n 2, 1) := by decide +kernel
theorem dX5_cellsOfRow_66 : decode cX5_cellsOfRow 66 = .ok (.ireturn, 1) := by decide +kernel
theorem dX5_takeText_0 : decode cX5_takeText 0 = .ok (.aload_n 0, 1) := by decide +kernel
theorem dX5_takeText_1 : decode cX5_takeText 1 = .ok (.aload_n 0, 1) := by decide +kernel
theorem dX5_takeText_2 : decode cX5_takeText 2 = .ok (.iload_n 1, 1) := by decide +kernel
theorem dX5_takeText_3 : decode cX5_takeText 3 = .ok (.iconst 2, 1) := by decide +kernel
theorem dX5_takeText_4 : decode cX5_takeText 4 = .ok (.invokevirtual 61, 3) := by decide +kernel
theorem dX5_takeText_7 : decode cX5_takeText 7 = .ok (.putfield 85, 3) := by decide +kernel
theorem dX5_takeText_10 : decode cX5_takeText 10 = .ok (.iconst 0, 1) := by decide +kernel
theorem dX5_takeText_11 : decode cX5_takeText 11 = .ok (.istore_n 2, 1) := by decide +kernel
theorem dX5_takeText_12 : decode cX5_takeText 12 = .ok (.iload_n 2, 1) := by decide +kernel
theorem dX5_takeText_13 : decode cX5_takeText 13 = .ok (.aload_n 0, 1) := by decide +kernel
theorem dX5_takeText_14 : decode cX5_takeText 14 = .ok (.getfield 85, 3) := by decide +kernel
theorem dX5_takeText_17 : decode cX5_takeText 17 = .ok (.if_icmp .ge 21, 3) := by decide +kernel
theorem dX5_takeText_20 : decode cX5_takeText 20 = .ok (.aload_n 0, 1) := by decide +kernel
theorem dX5_takeText_21 : decode cX5_takeText 21 = .ok (.getfield 31, 3) := by decide +kernel
theorem dX5_takeText_24 : decode cX5_takeText 24 = .ok (.iload_n 2, 1) := by decide +kernel
theorem dX5_takeText_25 : decode cX5_takeText 25 = .ok (.aload_n 0, 1) := by decide +kernel
theorem dX5_takeText_26 : decode cX5_takeText 26 = .ok (.iload_n 1, 1) := by decide +kernel
theorem dX5_takeText_27 : decode cX5_takeText 27 = .ok (.iload_n 2, 1) := by decide +kernel
theorem dX5_takeText_28 : decode cX5_takeText 28 = .ok (.invokevirtual 88, 3) := by decide +kernel
theorem dX5_takeText_31 : decode cX5_takeText 31 = .ok (.iastore, 1) := by decide +kernel
theorem dX5_takeText_32 : decode cX5_takeText 32 = .ok (.iinc 2 1, 3) := by decide +kernel
theorem dX5_takeText_35 : decode cX5_takeText 35 = .ok (.goto (-23), 3) := by decide +kernel
theorem dX5_takeText_38 : decode cX5_takeText 38 = .ok (.return_, 1) := by decide +kernel
theorem dX5_headLetters_0 : decode cX5_headLetters 0 = .ok (.aload_n 0, 1) := by decide +kernel
theorem dX5_headLetters_1 : decode cX5_headLetters 1 = .ok (.getfield 85, 3) := by decide +kernel
theorem dX5_headLetters_4 : decode cX5_headLetters 4 = .ok (.aload_n 0, 1) := by decide +kernel
theorem dX5_headLetters_5 : decode cX5_headLetters 5 = .ok (.getfield 7, 3) := by decide +kernel
theorem dX5_headLetters_8 : decode cX5_headLetters 8 = .ok (.iconst 0, 1) := by decide +kernel
theorem dX5_headLetters_9 : decode cX5_headLetters 9 = .ok (.iaload, 1) := by decide +kernel
theorem dX5_headLetters_10 : decode cX5_headLetters 10 = .ok (.if_icmp .ge 10, 3) := by decide +kernel
theorem dX5_headLetters_13 : decode cX5_headLetters 13 = .ok (.aload_n 0, 1) := by decide +kernel
theorem dX5_headLetters_14 : decode cX5_headLetters 14 = .ok (.getfield 85, 3) := by decide +kernel
theorem dX5_headLetters_17 : decode cX5_headLetters 17 = .ok (.goto 9, 3) := by decide +kernel
theorem dX5_headLetters_20 : decode cX5_headLetters 20 = .ok (.aload_n 0, 1) := by decide +kernel
theorem dX5_headLetters_21 : decode cX5_headLetters 21 = .ok (.getfield 7, 3) := by decide +kernel
theorem dX5_headLetters_24 : decode cX5_headLetters 24 = .ok (.iconst 0, 1) := by decide +kernel
theorem dX5_headLetters_25 : decode cX5_headLetters 25 = .ok (.iaload, 1) := by decide +kernel
theorem dX5_headLetters_26 : decode cX5_headLetters 26 = .ok (.ireturn, 1) := by decide +kernel
theorem dX5_setText_0 : decode cX5_setText 0 = .ok (.aload_n 0, 1) := by decide +kernel
theorem dX5_setText_1 : decode cX5_setText 1 = .ok (.iload_n 1, 1) := by decide +kernel
theorem dX5_setText_2 : decode cX5_setText 2 = .ok (.iconst 2, 1) := by decide +kernel
theorem dX5_setText_3 : decode cX5_setText 3 = .ok (.aload_n 0, 1) := by decide +kernel
theorem dX5_setText_4 : decode cX5_setText 4 = .ok (.getfield 85, 3) := by decide +kernel
theorem dX5_setText_7 : decode cX5_setText 7 = .ok (.invokevirtual 91, 3) := by decide +kernel
theorem dX5_setText_10 : decode cX5_setText 10 = .ok (.iconst 0, 1) := by decide +kernel
theorem dX5_setText_11 : decode cX5_setText 11 = .ok (.istore_n 2, 1) := by decide +kernel
theorem dX5_setText_12 : decode cX5_setText 12 = .ok (.iload_n 2, 1) := by decide +kernel
theorem dX5_setText_13 : decode cX5_setText 13 = .ok (.bipush 7, 2) := by decide +kernel
theorem dX5_setText_15 : decode cX5_setText 15 = .ok (.if_icmp .ge 18, 3) := by decide +kernel
theorem dX5_setText_18 : decode cX5_setText 18 = .ok (.aload_n 0, 1) := by decide +kernel
theorem dX5_setText_19 : decode cX5_setText 19 = .ok (.iload_n 1, 1) := by decide +kernel
theorem dX5_setText_20 : decode cX5_setText 20 = .ok (.iconst 5, 1) := by decide +kernel
theorem dX5_setText_21 : decode cX5_setText 21 = .ok (.iload_n 2, 1) := by decide +kernel
theorem dX5_setText_22 : decode cX5_setText 22 = .ok (.iadd, 1) := by decide +kernel
theorem dX5_setText_23 : decode cX5_setText 23 = .ok (.iconst 0, 1) := by decide +kernel
theorem dX5_setText_24 : decode cX5_setText 24 = .ok (.invokevirtual 91, 3) := by decide +kernel
theorem dX5_setText_27 : decode cX5_setText 27 = .ok (.iinc 2 1, 3) := by decide +kernel
theorem dX5_setText_30 : decode cX5_setText 30 = .ok (.goto (-18), 3) := by decide +kernel
theorem dX5_setText_33 : decode cX5_setText 33 = .ok (.iconst 0, 1) := by decide +kernel
theorem dX5_setText_34 : decode cX5_setText 34 = .ok (.istore_n 2, 1) := by decide +kernel
theorem dX5_setText_35 : decode cX5_setText 35 = .ok (.iload_n 2, 1) := by decide +kernel
theorem dX5_setText_36 : decode cX5_setText 36 = .ok (.aload_n 0, 1) := by decide +kernel
theorem dX5_setText_37 : decode cX5_setText 37 = .ok (.getfield 85, 3) := by decide +kernel
theorem dX5_setText_40 : decode cX5_setText 40 = .ok (.if_icmp .ge 45, 3) := by decide +kernel
theorem dX5_setText_43 : decode cX5_setText 43 = .ok (.aload_n 0, 1) := by decide +kernel
theorem dX5_setText_44 : decode cX5_setText 44 = .ok (.iload_n 1, 1) := by decide +kernel
theorem dX5_setText_45 : decode cX5_setText 45 = .ok (.iconst 5, 1) := by decide +kernel
theorem dX5_setText_46 : decode cX5_setText 46 = .ok (.iload_n 2, 1) := by decide +kernel
theorem dX5_setText_47 : decode cX5_setText 47 = .ok (.bipush 6, 2) := by decide +kernel
theorem dX5_setText_49 : decode cX5_setText 49 = .ok (.idiv, 1) := by decide +kernel
theorem dX5_setText_50 : decode cX5_setText 50 = .ok (.iadd, 1) := by decide +kernel
theorem dX5_setText_51 : decode cX5_setText 51 = .ok (.aload_n 0, 1) := by decide +kernel
theorem dX5_setText_52 : decode cX5_setText 52 = .ok (.iload_n 1, 1) := by decide +kernel
theorem dX5_setText_53 : decode cX5_setText 53 = .ok (.iconst 5, 1) := by decide +kernel
theorem dX5_setText_54 : decode cX5_setText 54 = .ok (.iload_n 2, 1) := by decide +kernel
theorem dX5_setText_55 : decode cX5_setText 55 = .ok (.bipush 6, 2) := by decide +kernel
theorem dX5_setText_57 : decode cX5_setText 57 = .ok (.idiv, 1) := by decide +kernel
theorem dX5_setText_58 : decode cX5_setText 58 = .ok (.iadd, 1) := by decide +kernel
theorem dX5_setText_59 : decode cX5_setText 59 = .ok (.invokevirtual 61, 3) := by decide +kernel
theorem dX5_setText_62 : decode cX5_setText 62 = .ok (.aload_n 0, 1) := by decide +kernel
theorem dX5_setText_63 : decode cX5_setText 63 = .ok (.getfield 31, 3) := by decide +kernel
theorem dX5_setText_66 : decode cX5_setText 66 = .ok (.iload_n 2, 1) := by decide +kernel
theorem dX5_setText_67 : decode cX5_setText 67 = .ok (.iaload, 1) := by decide +kernel
theorem dX5_setText_68 : decode cX5_setText 68 = .ok (.iconst 5, 1) := by decide +kernel
theorem dX5_setText_69 : decode cX5_setText 69 = .ok (.iload_n 2, 1) := by decide +kernel
theorem dX5_setText_70 : decode cX5_setText 70 = .ok (.bipush 6, 2) := by decide +kernel
theorem dX5_setText_72 : decode cX5_setText 72 = .ok (.irem, 1) := by decide +kernel
theorem dX5_setText_73 : decode cX5_setText 73 = .ok (.imul, 1) := by decide +kernel
theorem dX5_setText_74 : decode cX5_setText 74 = .ok (.ishl, 1) := by decide +kernel
theorem dX5_setText_75 : decode cX5_setText 75 = .ok (.ior, 1) := by decide +kernel
theorem dX5_setText_76 : decode cX5_setText 76 = .ok (.invokevirtual 91, 3) := by decide +kernel
theorem dX5_setText_79 : decode cX5_setText 79 = .ok (.iinc 2 1, 3) := by decide +kernel
theorem dX5_setText_82 : decode cX5_setText 82 = .ok (.goto (-47), 3) := by decide +kernel
theorem dX5_setText_85 : decode cX5_setText 85 = .ok (.return_, 1) := by decide +kernel
theorem dX5_putPieces_0 : decode cX5_putPieces 0 = .ok (.aload_n 0, 1) := by decide +kernel
theorem dX5_putPieces_1 : decode cX5_putPieces 1 = .ok (.invokevirtual 95, 3) := by decide +kernel
theorem dX5_putPieces_4 : decode cX5_putPieces 4 = .ok (.istore_n 2, 1) := by decide +kernel
theorem dX5_putPieces_5 : decode cX5_putPieces 5 = .ok (.iconst 0, 1) := by decide +kernel
theorem dX5_putPieces_6 : decode cX5_putPieces 6 = .ok (.istore_n 3, 1) := by decide +kernel
theorem dX5_putPieces_7 : decode cX5_putPieces 7 = .ok (.iload_n 2, 1) := by decide +kernel
theorem dX5_putPieces_8 : decode cX5_putPieces 8 = .ok (.aload_n 0, 1) := by decide +kernel
theorem dX5_putPieces_9 : decode cX5_putPieces 9 = .ok (.getfield 85, 3) := by decide +kernel
theorem dX5_putPieces_12 : decode cX5_putPieces 12 = .ok (.if_icmp .ge 65, 3) := by decide +kernel
theorem dX5_putPieces_15 : decode cX5_putPieces 15 = .ok (.aload_n 0, 1) := by decide +kernel
theorem dX5_putPieces_16 : decode cX5_putPieces 16 = .ok (.getfield 85, 3) := by decide +kernel
theorem dX5_putPieces_19 : decode cX5_putPieces 19 = .ok (.iload_n 2, 1) := by decide +kernel
theorem dX5_putPieces_20 : decode cX5_putPieces 20 = .ok (.isub, 1) := by decide +kernel
theorem dX5_putPieces_21 : decode cX5_putPieces 21 = .ok (.aload_n 0, 1) := by decide +kernel
theorem dX5_putPieces_22 : decode cX5_putPieces 22 = .ok (.getfield 7, 3) := by decide +kernel
theorem dX5_putPieces_25 : decode cX5_putPieces 25 = .ok (.iconst 1, 1) := by decide +kernel
theorem dX5_putPieces_26 : decode cX5_putPieces 26 = .ok (.iaload, 1) := by decide +kernel
theorem dX5_putPieces_27 : decode cX5_putPieces 27 = .ok (.if_icmp .ge 12, 3) := by decide +kernel
theorem dX5_putPieces_30 : decode cX5_putPieces 30 = .ok (.aload_n 0, 1) := by decide +kernel
theorem dX5_putPieces_31 : decode cX5_putPieces 31 = .ok (.getfield 85, 3) := by decide +kernel
theorem dX5_putPieces_34 : decode cX5_putPieces 34 = .ok (.iload_n 2, 1) := by decide +kernel
theorem dX5_putPieces_35 : decode cX5_putPieces 35 = .ok (.isub, 1) := by decide +kernel
theorem dX5_putPieces_36 : decode cX5_putPieces 36 = .ok (.goto 9, 3) := by decide +kernel
theorem dX5_putPieces_39 : decode cX5_putPieces 39 = .ok (.aload_n 0, 1) := by decide +kernel
theorem dX5_putPieces_40 : decode cX5_putPieces 40 = .ok (.getfield 7, 3) := by decide +kernel
theorem dX5_putPieces_43 : decode cX5_putPieces 43 = .ok (.iconst 1, 1) := by decide +kernel
theorem dX5_putPieces_44 : decode cX5_putPieces 44 = .ok (.iaload, 1) := by decide +kernel
theorem dX5_putPieces_45 : decode cX5_putPieces 45 = .ok (.istore 4, 2) := by decide +kernel
theorem dX5_putPieces_47 : decode cX5_putPieces 47 = .ok (.aload_n 0, 1) := by decide +kernel
theorem dX5_putPieces_48 : decode cX5_putPieces 48 = .ok (.iconst 2, 1) := by decide +kernel
theorem dX5_putPieces_49 : decode cX5_putPieces 49 = .ok (.iload_n 1, 1) := by decide +kernel
theorem dX5_putPieces_50 : decode cX5_putPieces 50 = .ok (.iload_n 3, 1) := by decide +kernel
theorem dX5_putPieces_51 : decode cX5_putPieces 51 = .ok (.iload 4, 2) := by decide +kernel
theorem dX5_putPieces_53 : decode cX5_putPieces 53 = .ok (.invokestatic 99, 3) := by decide +kernel
theorem dX5_putPieces_56 : decode cX5_putPieces 56 = .ok (.invokevirtual 103, 3) := by decide +kernel
theorem dX5_putPieces_59 : decode cX5_putPieces 59 = .ok (.bipush (-6), 2) := by decide +kernel
theorem dX5_putPieces_61 : decode cX5_putPieces 61 = .ok (.if_icmp .ne 5, 3) := by decide +kernel
theorem dX5_putPieces_64 : decode cX5_putPieces 64 = .ok (.iconst 0, 1) := by decide +kernel
theorem dX5_putPieces_65 : decode cX5_putPieces 65 = .ok (.ireturn, 1) := by decide +kernel
theorem dX5_putPieces_66 : decode cX5_putPieces 66 = .ok (.iload_n 2, 1) := by decide +kernel
theorem dX5_putPieces_67 : decode cX5_putPieces 67 = .ok (.iload 4, 2) := by decide +kernel
theorem dX5_putPieces_69 : decode cX5_putPieces 69 = .ok (.iadd, 1) := by decide +kernel
theorem dX5_putPieces_70 : decode cX5_putPieces 70 = .ok (.istore_n 2, 1) := by decide +kernel
theorem dX5_putPieces_71 : decode cX5_putPieces 71 = .ok (.iinc 3 1, 3) := by decide +kernel
theorem dX5_putPieces_74 : decode cX5_putPieces 74 = .ok (.goto (-67), 3) := by decide +kernel
theorem dX5_putPieces_77 : decode cX5_putPieces 77 = .ok (.iconst 1, 1) := by decide +kernel
theorem dX5_putPieces_78 : decode cX5_putPieces 78 = .ok (.ireturn, 1) := by decide +kernel
theorem dX5_writeNew_0 : decode cX5_writeNew 0 = .ok (.aload_n 0, 1) := by decide +kernel
theorem dX5_writeNew_1 : decode cX5_writeNew 1 = .ok (.iconst 1, 1) := by decide +kernel
theorem dX5_writeNew_2 : decode cX5_writeNew 2 = .ok (.iload_n 1, 1) := by decide +kernel
theorem dX5_writeNew_3 : decode cX5_writeNew 3 = .ok (.iconst 0, 1) := by decide +kernel
theorem dX5_writeNew_4 : decode cX5_writeNew 4 = .ok (.aload_n 0, 1) := by decide +kernel
theorem dX5_writeNew_5 : decode cX5_writeNew 5 = .ok (.invokevirtual 95, 3) := by decide +kernel
theorem dX5_writeNew_8 : decode cX5_writeNew 8 = .ok (.invokestatic 99, 3) := by decide +kernel
theorem dX5_writeNew_11 : decode cX5_writeNew 11 = .ok (.invokevirtual 103, 3) := by decide +kernel
theorem dX5_writeNew_14 : decode cX5_writeNew 14 = .ok (.istore_n 2, 1) := by decide +kernel
theorem dX5_writeNew_15 : decode cX5_writeNew 15 = .ok (.aload_n 0, 1) := by decide +kernel
theorem dX5_writeNew_16 : decode cX5_writeNew 16 = .ok (.iload_n 1, 1) := by decide +kernel
theorem dX5_writeNew_17 : decode cX5_writeNew 17 = .ok (.iconst 3, 1) := by decide +kernel
theorem dX5_writeNew_18 : decode cX5_writeNew 18 = .ok (.iload_n 2, 1) := by decide +kernel
theorem dX5_writeNew_19 : decode cX5_writeNew 19 = .ok (.invokevirtual 91, 3) := by decide +kernel
theorem dX5_writeNew_22 : decode cX5_writeNew 22 = .ok (.aload_n 0, 1) := by decide +kernel
theorem dX5_writeNew_23 : decode cX5_writeNew 23 = .ok (.iload_n 1, 1) := by decide +kernel
theorem dX5_writeNew_24 : decode cX5_writeNew 24 = .ok (.iconst 4, 1) := by decide +kernel
theorem dX5_writeNew_25 : decode cX5_writeNew 25 = .ok (.iload_n 2, 1) := by decide +kernel
theorem dX5_writeNew_26 : decode cX5_writeNew 26 = .ok (.invokevirtual 91, 3) := by decide +kernel
theorem dX5_writeNew_29 : decode cX5_writeNew 29 = .ok (.aload_n 0, 1) := by decide +kernel
theorem dX5_writeNew_30 : decode cX5_writeNew 30 = .ok (.iload_n 1, 1) := by decide +kernel
theorem dX5_writeNew_31 : decode cX5_writeNew 31 = .ok (.invokevirtual 106, 3) := by decide +kernel
theorem dX5_writeNew_34 : decode cX5_writeNew 34 = .ok (.iload_n 2, 1) := by decide +kernel
theorem dX5_writeNew_35 : decode cX5_writeNew 35 = .ok (.bipush (-6), 2) := by decide +kernel
theorem dX5_writeNew_37 : decode cX5_writeNew 37 = .ok (.if_icmp .eq 15, 3) := by decide +kernel
theorem dX5_writeNew_40 : decode cX5_writeNew 40 = .ok (.aload_n 0, 1) := by decide +kernel
theorem dX5_writeNew_41 : decode cX5_writeNew 41 = .ok (.iload_n 1, 1) := by decide +kernel
theorem dX5_writeNew_42 : decode cX5_writeNew 42 = .ok (.invokevirtual 109, 3) := by decide +kernel
theorem dX5_writeNew_45 : decode cX5_writeNew 45 = .ok (.ifCond .eq 7, 3) := by decide +kernel
theorem dX5_writeNew_48 : decode cX5_writeNew 48 = .ok (.iconst 1, 1) := by decide +kernel
theorem dX5_writeNew_49 : decode cX5_writeNew 49 = .ok (.goto 4, 3) := by decide +kernel
theorem dX5_writeNew_52 : decode cX5_writeNew 52 = .ok (.iconst 0, 1) := by decide +kernel
theorem dX5_writeNew_53 : decode cX5_writeNew 53 = .ok (.ireturn, 1) := by decide +kernel
theorem dX5_placeForHead_0 : decode cX5_placeForHead 0 = .ok (.aload_n 0, 1) := by decide +kernel
theorem dX5_placeForHead_1 : decode cX5_placeForHead 1 = .ok (.iload_n 1, 1) := by decide +kernel
theorem dX5_placeForHead_2 : decode cX5_placeForHead 2 = .ok (.iconst 4, 1) := by decide +kernel
theorem dX5_placeForHead_3 : decode cX5_placeForHead 3 = .ok (.invokevirtual 61, 3) := by decide +kernel
theorem dX5_placeForHead_6 : decode cX5_placeForHead 6 = .ok (.istore_n 3, 1) := by decide +kernel
theorem dX5_placeForHead_7 : decode cX5_placeForHead 7 = .ok (.aload_n 0, 1) := by decide +kernel
theorem dX5_placeForHead_8 : decode cX5_placeForHead 8 = .ok (.iload_n 1, 1) := by decide +kernel
theorem dX5_placeForHead_9 : decode cX5_placeForHead 9 = .ok (.iconst 3, 1) := by decide +kernel
theorem dX5_placeForHead_10 : decode cX5_placeForHead 10 = .ok (.invokevirtual 61, 3) := by decide +kernel
theorem dX5_placeForHead_13 : decode cX5_placeForHead 13 = .ok (.istore 4, 2) := by decide +kernel
theorem dX5_placeForHead_15 : decode cX5_placeForHead 15 = .ok (.aload_n 0, 1) := by decide +kernel
theorem dX5_placeForHead_16 : decode cX5_placeForHead 16 = .ok (.iload_n 3, 1) := by decide +kernel
theorem dX5_placeForHead_17 : decode cX5_placeForHead 17 = .ok (.bipush 40, 2) := by decide +kernel
theorem dX5_placeForHead_19 : decode cX5_placeForHead 19 = .ok (.idiv, 1) := by decide +kernel
theorem dX5_placeForHead_20 : decode cX5_placeForHead 20 = .ok (.invokevirtual 55, 3) := by decide +kernel
theorem dX5_placeForHead_23 : decode cX5_placeForHead 23 = .ok (.iload_n 2, 1) := by decide +kernel
theorem dX5_placeForHead_24 : decode cX5_placeForHead 24 = .ok (.invokestatic 52, 3) := by decide +kernel
theorem dX5_placeForHead_27 : decode cX5_placeForHead 27 = .ok (.if_icmp .lt 5, 3) := by decide +kernel
theorem dX5_placeForHead_30 : decode cX5_placeForHead 30 = .ok (.iload_n 3, 1) := by decide +kernel
theorem dX5_placeForHead_31 : decode cX5_placeForHead 31 = .ok (.ireturn, 1) := by decide +kernel
theorem dX5_placeForHead_32 : decode cX5_placeForHead 32 = .ok (.iload_n 3, 1) := by decide +kernel
theorem dX5_placeForHead_33 : decode cX5_placeForHead 33 = .ok (.iload 4, 2) := by decide +kernel
theorem dX5_placeForHead_35 : decode cX5_placeForHead 35 = .ok (.if_icmp .ne 24, 3) := by decide +kernel
theorem dX5_placeForHead_38 : decode cX5_placeForHead 38 = .ok (.aload_n 0, 1) := by decide +kernel
theorem dX5_placeForHead_39 : decode cX5_placeForHead 39 = .ok (.getfield 7, 3) := by decide +kernel
theorem dX5_placeForHead_42 : decode cX5_placeForHead 42 = .ok (.sipush 363, 3) := by decide +kernel
theorem dX5_placeForHead_45 : decode cX5_placeForHead 45 = .ok (.iload 4, 2) := by decide +kernel
theorem dX5_placeForHead_47 : decode cX5_placeForHead 47 = .ok (.iadd, 1) := by decide +kernel
theorem dX5_placeForHead_48 : decode cX5_placeForHead 48 = .ok (.iconst 3, 1) := by decide +kernel
theorem dX5_placeForHead_49 : decode cX5_placeForHead 49 = .ok (.iload_n 1, 1) := by decide +kernel
theorem dX5_placeForHead_50 : decode cX5_placeForHead 50 = .ok (.iconst 0, 1) := by decide +kernel
theorem dX5_placeForHead_51 : decode cX5_placeForHead 51 = .ok (.iconst 0, 1) := by decide +kernel
theorem dX5_placeForHead_52 : decode cX5_placeForHead 52 = .ok (.invokestatic 99, 3) := by decide +kernel
theorem dX5_placeForHead_55 : decode cX5_placeForHead 55 = .ok (.iastore, 1) := by decide +kernel
theorem dX5_placeForHead_56 : decode cX5_placeForHead 56 = .ok (.goto 24, 3) := by decide +kernel
theorem dX5_placeForHead_59 : decode cX5_placeForHead 59 = .ok (.aload_n 0, 1) := by decide +kernel
theorem dX5_placeForHead_60 : decode cX5_placeForHead 60 = .ok (.iload 4, 2) := by decide +kernel
theorem dX5_placeForHead_62 : decode cX5_placeForHead 62 = .ok (.bipush 40, 2) := by decide +kernel
theorem dX5_placeForHead_64 : decode cX5_placeForHead 64 = .ok (.idiv, 1) := by decide +kernel
theorem dX5_placeForHead_65 : decode cX5_placeForHead 65 = .ok (.invokevirtual 55, 3) := by decide +kernel
theorem dX5_placeForHead_68 : decode cX5_placeForHead 68 = .ok (.iconst 1, 1) := by decide +kernel
theorem dX5_placeForHead_69 : decode cX5_placeForHead 69 = .ok (.iadd, 1) := by decide +kernel
theorem dX5_placeForHead_70 : decode cX5_placeForHead 70 = .ok (.iload_n 2, 1) := by decide +kernel
theorem dX5_placeForHead_71 : decode cX5_placeForHead 71 = .ok (.invokestatic 52, 3) := by decide +kernel
theorem dX5_placeForHead_74 : decode cX5_placeForHead 74 = .ok (.if_icmp .lt 6, 3) := by decide +kernel
theorem dX5_placeForHead_77 : decode cX5_placeForHead 77 = .ok (.iload 4, 2) := by decide +kernel
theorem dX5_placeForHead_79 : decode cX5_placeForHead 79 = .ok (.ireturn, 1) := by decide +kernel
theorem dX5_placeForHead_80 : decode cX5_placeForHead 80 = .ok (.aload_n 0, 1) := by decide +kernel
theorem dX5_placeForHead_81 : decode cX5_placeForHead 81 = .ok (.iload_n 2, 1) := by decide +kernel
theorem dX5_placeForHead_82 : decode cX5_placeForHead 82 = .ok (.invokevirtual 103, 3) := by decide +kernel
theorem dX5_placeForHead_85 : decode cX5_placeForHead 85 = .ok (.ireturn, 1) := by decide +kernel
theorem dX5_writeAgain_0 : decode cX5_writeAgain 0 = .ok (.iconst 1, 1) := by decide +kernel
theorem dX5_writeAgain_1 : decode cX5_writeAgain 1 = .ok (.iload_n 1, 1) := by decide +kernel
theorem dX5_writeAgain_2 : decode cX5_writeAgain 2 = .ok (.iconst 0, 1) := by decide +kernel
theorem dX5_writeAgain_3 : decode cX5_writeAgain 3 = .ok (.aload_n 0, 1) := by decide +kernel
theorem dX5_writeAgain_4 : decode cX5_writeAgain 4 = .ok (.invokevirtual 95, 3) := by decide +kernel
theorem dX5_writeAgain_7 : decode cX5_writeAgain 7 = .ok (.invokestatic 99, 3) := by decide +kernel
theorem dX5_writeAgain_10 : decode cX5_writeAgain 10 = .ok (.istore_n 2, 1) := by decide +kernel
theorem dX5_writeAgain_11 : decode cX5_writeAgain 11 = .ok (.aload_n 0, 1) := by decide +kernel
theorem dX5_writeAgain_12 : decode cX5_writeAgain 12 = .ok (.iload_n 1, 1) := by decide +kernel
theorem dX5_writeAgain_13 : decode cX5_writeAgain 13 = .ok (.invokevirtual 112, 3) := by decide +kernel
theorem dX5_writeAgain_16 : decode cX5_writeAgain 16 = .ok (.aload_n 0, 1) := by decide +kernel
theorem dX5_writeAgain_17 : decode cX5_writeAgain 17 = .ok (.getfield 7, 3) := by decide +kernel
theorem dX5_writeAgain_20 : decode cX5_writeAgain 20 = .ok (.sipush 363, 3) := by decide +kernel
theorem dX5_writeAgain_23 : decode cX5_writeAgain 23 = .ok (.aload_n 0, 1) := by decide +kernel
theorem dX5_writeAgain_24 : decode cX5_writeAgain 24 = .ok (.iload_n 1, 1) := by decide +kernel
theorem dX5_writeAgain_25 : decode cX5_writeAgain 25 = .ok (.iconst 4, 1) := by decide +kernel
theorem dX5_writeAgain_26 : decode cX5_writeAgain 26 = .ok (.invokevirtual 61, 3) := by decide +kernel
theorem dX5_writeAgain_29 : decode cX5_writeAgain 29 = .ok (.iadd, 1) := by decide +kernel
theorem dX5_writeAgain_30 : decode cX5_writeAgain 30 = .ok (.iconst 0, 1) := by decide +kernel
theorem dX5_writeAgain_31 : decode cX5_writeAgain 31 = .ok (.iastore, 1) := by decide +kernel
theorem dX5_writeAgain_32 : decode cX5_writeAgain 32 = .ok (.aload_n 0, 1) := by decide +kernel
theorem dX5_writeAgain_33 : decode cX5_writeAgain 33 = .ok (.iload_n 1, 1) := by decide +kernel
theorem dX5_writeAgain_34 : decode cX5_writeAgain 34 = .ok (.iload_n 2, 1) := by decide +kernel
theorem dX5_writeAgain_35 : decode cX5_writeAgain 35 = .ok (.invokevirtual 115, 3) := by decide +kernel
theorem dX5_writeAgain_38 : decode cX5_writeAgain 38 = .ok (.istore_n 3, 1) := by decide +kernel
theorem dX5_writeAgain_39 : decode cX5_writeAgain 39 = .ok (.iload_n 3, 1) := by decide +kernel
theorem dX5_writeAgain_40 : decode cX5_writeAgain 40 = .ok (.bipush (-6), 2) := by decide +kernel
theorem dX5_writeAgain_42 : decode cX5_writeAgain 42 = .ok (.if_icmp .ne 5, 3) := by decide +kernel
theorem dX5_writeAgain_45 : decode cX5_writeAgain 45 = .ok (.iconst 0, 1) := by decide +kernel
theorem dX5_writeAgain_46 : decode cX5_writeAgain 46 = .ok (.ireturn, 1) := by decide +kernel
theorem dX5_writeAgain_47 : decode cX5_writeAgain 47 = .ok (.aload_n 0, 1) := by decide +kernel
theorem dX5_writeAgain_48 : decode cX5_writeAgain 48 = .ok (.getfield 7, 3) := by decide +kernel
theorem dX5_writeAgain_51 : decode cX5_writeAgain 51 = .ok (.sipush 363, 3) := by decide +kernel
theorem dX5_writeAgain_54 : decode cX5_writeAgain 54 = .ok (.iload_n 3, 1) := by decide +kernel
theorem dX5_writeAgain_55 : decode cX5_writeAgain 55 = .ok (.iadd, 1) := by decide +kernel
theorem dX5_writeAgain_56 : decode cX5_writeAgain 56 = .ok (.iload_n 2, 1) := by decide +kernel
theorem dX5_writeAgain_57 : decode cX5_writeAgain 57 = .ok (.iastore, 1) := by decide +kernel
theorem dX5_writeAgain_58 : decode cX5_writeAgain 58 = .ok (.aload_n 0, 1) := by decide +kernel
theorem dX5_writeAgain_59 : decode cX5_writeAgain 59 = .ok (.iload_n 1, 1) := by decide +kernel
theorem dX5_writeAgain_60 : decode cX5_writeAgain 60 = .ok (.iconst 4, 1) := by decide +kernel
theorem dX5_writeAgain_61 : decode cX5_writeAgain 61 = .ok (.iload_n 3, 1) := by decide +kernel
theorem dX5_writeAgain_62 : decode cX5_writeAgain 62 = .ok (.invokevirtual 91, 3) := by decide +kernel
theorem dX5_writeAgain_65 : decode cX5_writeAgain 65 = .ok (.aload_n 0, 1) := by decide +kernel
theorem dX5_writeAgain_66 : decode cX5_writeAgain 66 = .ok (.iload_n 1, 1) := by decide +kernel
theorem dX5_writeAgain_67 : decode cX5_writeAgain 67 = .ok (.invokevirtual 106, 3) := by decide +kernel
theorem dX5_writeAgain_70 : decode cX5_writeAgain 70 = .ok (.aload_n 0, 1) := by decide +kernel
theorem dX5_writeAgain_71 : decode cX5_writeAgain 71 = .ok (.iload_n 1, 1) := by decide +kernel
theorem dX5_writeAgain_72 : decode cX5_writeAgain 72 = .ok (.invokevirtual 109, 3) := by decide +kernel
theorem dX5_writeAgain_75 : decode cX5_writeAgain 75 = .ok (.ireturn, 1) := by decide +kernel
theorem dX5_freeRow_0 : decode cX5_freeRow 0 = .ok (.bipush (-6), 2) := by decide +kernel
theorem dX5_freeRow_2 : decode cX5_freeRow 2 = .ok (.istore_n 1, 1) := by decide +kernel
theorem dX5_freeRow_3 : decode cX5_freeRow 3 = .ok (.bipush 29, 2) := by decide +kernel
theorem dX5_freeRow_5 : decode cX5_freeRow 5 = .ok (.istore_n 2, 1) := by decide +kernel
theorem dX5_freeRow_6 : decode cX5_freeRow 6 = .ok (.iload_n 2, 1) := by decide +kernel
theorem dX5_freeRow_7 : decode cX5_freeRow 7 = .ok (.ifCond .lt 24, 3) := by decide +kernel
theorem dX5_freeRow_10 : decode cX5_freeRow 10 = .ok (.aload_n 0, 1) := by decide +kernel
theorem dX5_freeRow_11 : decode cX5_freeRow 11 = .ok (.iload_n 2, 1) := by decide +kernel
theorem dX5_freeRow_12 : decode cX5_freeRow 12 = .ok (.iconst 0, 1) := by decide +kernel
theorem dX5_freeRow_13 : decode cX5_freeRow 13 = .ok (.invokevirtual 61, 3) := by decide +kernel
theorem dX5_freeRow_16 : decode cX5_freeRow 16 = .ok (.ifCond .ne 7, 3) := by decide +kernel
theorem dX5_freeRow_19 : decode cX5_freeRow 19 = .ok (.iload_n 2, 1) := by decide +kernel
theorem dX5_freeRow_20 : decode cX5_freeRow 20 = .ok (.goto 4, 3) := by decide +kernel
theorem dX5_freeRow_23 : decode cX5_freeRow 23 = .ok (.iload_n 1, 1) := by decide +kernel
theorem dX5_freeRow_24 : decode cX5_freeRow 24 = .ok (.istore_n 1, 1) := by decide +kernel
theorem dX5_freeRow_25 : decode cX5_freeRow 25 = .ok (.iinc 2 (-1), 3) := by decide +kernel
theorem dX5_freeRow_28 : decode cX5_freeRow 28 = .ok (.goto (-22), 3) := by decide +kernel
theorem dX5_freeRow_31 : decode cX5_freeRow 31 = .ok (.iload_n 1, 1) := by decide +kernel
theorem dX5_freeRow_32 : decode cX5_freeRow 32 = .ok (.ireturn, 1) := by decide +kernel
theorem dX5_writes_0 : decode cX5_writes 0 = .ok (.aload_n 0, 1) := by decide +kernel
theorem dX5_writes_1 : decode cX5_writes 1 = .ok (.iload_n 1, 1) := by decide +kernel
theorem dX5_writes_2 : decode cX5_writes 2 = .ok (.invokevirtual 118, 3) := by decide +kernel
theorem dX5_writes_5 : decode cX5_writes 5 = .ok (.istore_n 2, 1) := by decide +kernel
theorem dX5_writes_6 : decode cX5_writes 6 = .ok (.iload_n 2, 1) := by decide +kernel
theorem dX5_writes_7 : decode cX5_writes 7 = .ok (.bipush (-6), 2) := by decide +kernel
theorem dX5_writes_9 : decode cX5_writes 9 = .ok (.if_icmp .ne 16, 3) := by decide +kernel
theorem dX5_writes_12 : decode cX5_writes 12 = .ok (.aload_n 0, 1) := by decide +kernel
theorem dX5_writes_13 : decode cX5_writes 13 = .ok (.getfield 7, 3) := by decide +kernel
theorem dX5_writes_16 : decode cX5_writes 16 = .ok (.iconst 2, 1) := by decide +kernel
theorem dX5_writes_17 : decode cX5_writes 17 = .ok (.iaload, 1) := by decide +kernel
theorem dX5_writes_18 : decode cX5_writes 18 = .ok (.bipush 30, 2) := by decide +kernel
theorem dX5_writes_20 : decode cX5_writes 20 = .ok (.if_icmp .ne 5, 3) := by decide +kernel
theorem dX5_writes_23 : decode cX5_writes 23 = .ok (.iconst 0, 1) := by decide +kernel
theorem dX5_writes_24 : decode cX5_writes 24 = .ok (.ireturn, 1) := by decide +kernel
theorem dX5_writes_25 : decode cX5_writes 25 = .ok (.aload_n 0, 1) := by decide +kernel
theorem dX5_writes_26 : decode cX5_writes 26 = .ok (.getfield 7, 3) := by decide +kernel
theorem dX5_writes_29 : decode cX5_writes 29 = .ok (.iconst 0, 1) := by decide +kernel
theorem dX5_writes_30 : decode cX5_writes 30 = .ok (.aload_n 0, 1) := by decide +kernel
theorem dX5_writes_31 : decode cX5_writes 31 = .ok (.getfield 16, 3) := by decide +kernel
theorem dX5_writes_34 : decode cX5_writes 34 = .ok (.iconst 0, 1) := by decide +kernel
theorem dX5_writes_35 : decode cX5_writes 35 = .ok (.invokestatic 41, 3) := by decide +kernel
theorem dX5_writes_38 : decode cX5_writes 38 = .ok (.iload_n 2, 1) := by decide +kernel
theorem dX5_writes_39 : decode cX5_writes 39 = .ok (.bipush (-6), 2) := by decide +kernel
theorem dX5_writes_41 : decode cX5_writes 41 = .ok (.if_icmp .ne 41, 3) := by decide +kernel
theorem dX5_writes_44 : decode cX5_writes 44 = .ok (.aload_n 0, 1) := by decide +kernel
theorem dX5_writes_45 : decode cX5_writes 45 = .ok (.invokevirtual 121, 3) := by decide +kernel
theorem dX5_writes_48 : decode cX5_writes 48 = .ok (.istore_n 2, 1) := by decide +kernel
theorem dX5_writes_49 : decode cX5_writes 49 = .ok (.aload_n 0, 1) := by decide +kernel
theorem dX5_writes_50 : decode cX5_writes 50 = .ok (.iload_n 2, 1) := by decide +kernel
theorem dX5_writes_51 : decode cX5_writes 51 = .ok (.iconst 0, 1) := by decide +kernel
theorem dX5_writes_52 : decode cX5_writes 52 = .ok (.iconst 1, 1) := by decide +kernel
theorem dX5_writes_53 : decode cX5_writes 53 = .ok (.invokevirtual 91, 3) := by decide +kernel
theorem dX5_writes_56 : decode cX5_writes 56 = .ok (.aload_n 0, 1) := by decide +kernel
theorem dX5_writes_57 : decode cX5_writes 57 = .ok (.iload_n 2, 1) := by decide +kernel
theorem dX5_writes_58 : decode cX5_writes 58 = .ok (.iconst 1, 1) := by decide +kernel
theorem dX5_writes_59 : decode cX5_writes 59 = .ok (.iload_n 1, 1) := by decide +kernel
theorem dX5_writes_60 : decode cX5_writes 60 = .ok (.invokevirtual 91, 3) := by decide +kernel
theorem dX5_writes_63 : decode cX5_writes 63 = .ok (.aload_n 0, 1) := by decide +kernel
theorem dX5_writes_64 : decode cX5_writes 64 = .ok (.getfield 7, 3) := by decide +kernel
theorem dX5_writes_67 : decode cX5_writes 67 = .ok (.iconst 2, 1) := by decide +kernel
theorem dX5_writes_68 : decode cX5_writes 68 = .ok (.dup2, 1) := by decide +kernel
theorem dX5_writes_69 : decode cX5_writes 69 = .ok (.iaload, 1) := by decide +kernel
theorem dX5_writes_70 : decode cX5_writes 70 = .ok (.iconst 1, 1) := by decide +kernel
theorem dX5_writes_71 : decode cX5_writes 71 = .ok (.iadd, 1) := by decide +kernel
theorem dX5_writes_72 : decode cX5_writes 72 = .ok (.iastore, 1) := by decide +kernel
theorem dX5_writes_73 : decode cX5_writes 73 = .ok (.aload_n 0, 1) := by decide +kernel
theorem dX5_writes_74 : decode cX5_writes 74 = .ok (.iload_n 2, 1) := by decide +kernel
theorem dX5_writes_75 : decode cX5_writes 75 = .ok (.invokevirtual 124, 3) := by decide +kernel
theorem dX5_writes_78 : decode cX5_writes 78 = .ok (.istore_n 3, 1) := by decide +kernel
theorem dX5_writes_79 : decode cX5_writes 79 = .ok (.goto 9, 3) := by decide +kernel
theorem dX5_writes_82 : decode cX5_writes 82 = .ok (.aload_n 0, 1) := by decide +kernel
theorem dX5_writes_83 : decode cX5_writes 83 = .ok (.iload_n 2, 1) := by decide +kernel
theorem dX5_writes_84 : decode cX5_writes 84 = .ok (.invokevirtual 127, 3) := by decide +kernel
theorem dX5_writes_87 : decode cX5_writes 87 = .ok (.istore_n 3, 1) := by decide +kernel
theorem dX5_writes_88 : decode cX5_writes 88 = .ok (.iload_n 3, 1) := by decide +kernel
theorem dX5_writes_89 : decode cX5_writes 89 = .ok (.ifCond .ne 16, 3) := by decide +kernel
theorem dX5_writes_92 : decode cX5_writes 92 = .ok (.aload_n 0, 1) := by decide +kernel
theorem dX5_writes_93 : decode cX5_writes 93 = .ok (.getfield 16, 3) := by decide +kernel
theorem dX5_writes_96 : decode cX5_writes 96 = .ok (.iconst 0, 1) := by decide +kernel
theorem dX5_writes_97 : decode cX5_writes 97 = .ok (.aload_n 0, 1) := by decide +kernel
theorem dX5_writes_98 : decode cX5_writes 98 = .ok (.getfield 7, 3) := by decide +kernel
theorem dX5_writes_101 : decode cX5_writes 101 = .ok (.iconst 0, 1) := by decide +kernel
theorem dX5_writes_102 : decode cX5_writes 102 = .ok (.invokestatic 41, 3) := by decide +kernel
theorem dX5_writes_105 : decode cX5_writes 105 = .ok (.iload_n 3, 1) := by decide +kernel
theorem dX5_writes_106 : decode cX5_writes 106 = .ok (.ireturn, 1) := by decide +kernel
theorem dX5_isValue_0 : decode cX5_isValue 0 = .ok (.iload_n 0, 1) := by decide +kernel
theorem dX5_isValue_1 : decode cX5_isValue 1 = .ok (.ifCond .ne 13, 3) := by decide +kernel
theorem dX5_isValue_4 : decode cX5_isValue 4 = .ok (.iload_n 1, 1) := by decide +kernel
theorem dX5_isValue_5 : decode cX5_isValue 5 = .ok (.iconst 0, 1) := by decide +kernel
theorem dX5_isValue_6 : decode cX5_isValue 6 = .ok (.bipush 16, 2) := by decide +kernel
theorem dX5_isValue_8 : decode cX5_isValue 8 = .ok (.invokestatic 130, 3) := by decide +kernel
theorem dX5_isValue_11 : decode cX5_isValue 11 = .ok (.goto 23, 3) := by decide +kernel
theorem dX5_isValue_14 : decode cX5_isValue 14 = .ok (.iload_n 0, 1) := by decide +kernel
theorem dX5_isValue_15 : decode cX5_isValue 15 = .ok (.iconst 1, 1) := by decide +kernel
theorem dX5_isValue_16 : decode cX5_isValue 16 = .ok (.if_icmp .ne 17, 3) := by decide +kernel
theorem dX5_isValue_19 : decode cX5_isValue 19 = .ok (.iload_n 1, 1) := by decide +kernel
theorem dX5_isValue_20 : decode cX5_isValue 20 = .ok (.iconst 1, 1) := by decide +kernel
theorem dX5_isValue_21 : decode cX5_isValue 21 = .ok (.bipush 12, 2) := by decide +kernel
theorem dX5_isValue_23 : decode cX5_isValue 23 = .ok (.invokestatic 130, 3) := by decide +kernel
theorem dX5_isValue_26 : decode cX5_isValue 26 = .ok (.ifCond .eq 7, 3) := by decide +kernel
theorem dX5_isValue_29 : decode cX5_isValue 29 = .ok (.iconst 1, 1) := by decide +kernel
theorem dX5_isValue_30 : decode cX5_isValue 30 = .ok (.goto 4, 3) := by decide +kernel
theorem dX5_isValue_33 : decode cX5_isValue 33 = .ok (.iconst 0, 1) := by decide +kernel
theorem dX5_isValue_34 : decode cX5_isValue 34 = .ok (.ireturn, 1) := by decide +kernel
theorem dX5_set_0 : decode cX5_set 0 = .ok (.iload_n 1, 1) := by decide +kernel
theorem dX5_set_1 : decode cX5_set 1 = .ok (.iload_n 2, 1) := by decide +kernel
theorem dX5_set_2 : decode cX5_set 2 = .ok (.invokestatic 134, 3) := by decide +kernel
theorem dX5_set_5 : decode cX5_set 5 = .ok (.ifCond .ne 6, 3) := by decide +kernel
theorem dX5_set_8 : decode cX5_set 8 = .ok (.bipush (-2), 2) := by decide +kernel
theorem dX5_set_10 : decode cX5_set 10 = .ok (.ireturn, 1) := by decide +kernel
theorem dX5_set_11 : decode cX5_set 11 = .ok (.aload_n 0, 1) := by decide +kernel
theorem dX5_set_12 : decode cX5_set 12 = .ok (.aload_n 0, 1) := by decide +kernel
theorem dX5_set_13 : decode cX5_set 13 = .ok (.getfield 7, 3) := by decide +kernel
theorem dX5_set_16 : decode cX5_set 16 = .ok (.invokevirtual 138, 3) := by decide +kernel
theorem dX5_set_19 : decode cX5_set 19 = .ok (.aload_n 0, 1) := by decide +kernel
theorem dX5_set_20 : decode cX5_set 20 = .ok (.getfield 7, 3) := by decide +kernel
theorem dX5_set_23 : decode cX5_set 23 = .ok (.iload_n 1, 1) := by decide +kernel
theorem dX5_set_24 : decode cX5_set 24 = .ok (.iaload, 1) := by decide +kernel
theorem dX5_set_25 : decode cX5_set 25 = .ok (.istore_n 3, 1) := by decide +kernel
theorem dX5_set_26 : decode cX5_set 26 = .ok (.aload_n 0, 1) := by decide +kernel
theorem dX5_set_27 : decode cX5_set 27 = .ok (.getfield 7, 3) := by decide +kernel
theorem dX5_set_30 : decode cX5_set 30 = .ok (.iload_n 1, 1) := by decide +kernel
theorem dX5_set_31 : decode cX5_set 31 = .ok (.iload_n 2, 1) := by decide +kernel
theorem dX5_set_32 : decode cX5_set 32 = .ok (.iastore, 1) := by decide +kernel
theorem dX5_set_33 : decode cX5_set 33 = .ok (.iload_n 3, 1) := by decide +kernel
theorem dX5_set_34 : decode cX5_set 34 = .ok (.ireturn, 1) := by decide +kernel
theorem dX5_write_0 : decode cX5_write 0 = .ok (.aload_n 0, 1) := by decide +kernel
theorem dX5_write_1 : decode cX5_write 1 = .ok (.invokevirtual 142, 3) := by decide +kernel
theorem dX5_write_4 : decode cX5_write 4 = .ok (.bipush (-6), 2) := by decide +kernel
theorem dX5_write_6 : decode cX5_write 6 = .ok (.if_icmp .eq 6, 3) := by decide +kernel
theorem dX5_write_9 : decode cX5_write 9 = .ok (.bipush (-3), 2) := by decide +kernel
theorem dX5_write_11 : decode cX5_write 11 = .ok (.ireturn, 1) := by decide +kernel
theorem dX5_write_12 : decode cX5_write 12 = .ok (.aload_n 0, 1) := by decide +kernel
theorem dX5_write_13 : decode cX5_write 13 = .ok (.aload_n 0, 1) := by decide +kernel
theorem dX5_write_14 : decode cX5_write 14 = .ok (.getfield 7, 3) := by decide +kernel
theorem dX5_write_17 : decode cX5_write 17 = .ok (.invokevirtual 138, 3) := by decide +kernel
theorem dX5_write_20 : decode cX5_write 20 = .ok (.iconst 0, 1) := by decide +kernel
theorem dX5_write_21 : decode cX5_write 21 = .ok (.istore_n 1, 1) := by decide +kernel
theorem dX5_write_22 : decode cX5_write 22 = .ok (.iconst 0, 1) := by decide +kernel
theorem dX5_write_23 : decode cX5_write 23 = .ok (.istore_n 2, 1) := by decide +kernel
theorem dX5_write_24 : decode cX5_write 24 = .ok (.iconst 1, 1) := by decide +kernel
theorem dX5_write_25 : decode cX5_write 25 = .ok (.istore_n 3, 1) := by decide +kernel
theorem dX5_write_26 : decode cX5_write 26 = .ok (.iload_n 3, 1) := by decide +kernel
theorem dX5_write_27 : decode cX5_write 27 = .ok (.ifCond .eq 134, 3) := by decide +kernel
theorem dX5_write_30 : decode cX5_write 30 = .ok (.iload_n 2, 1) := by decide +kernel
theorem dX5_write_31 : decode cX5_write 31 = .ok (.aload_n 0, 1) := by decide +kernel
theorem dX5_write_32 : decode cX5_write 32 = .ok (.getfield 145, 3) := by decide +kernel
theorem dX5_write_35 : decode cX5_write 35 = .ok (.if_icmp .ge 126, 3) := by decide +kernel
theorem dX5_write_38 : decode cX5_write 38 = .ok (.iconst 0, 1) := by decide +kernel
theorem dX5_write_39 : decode cX5_write 39 = .ok (.istore 4, 2) := by decide +kernel
theorem dX5_write_41 : decode cX5_write 41 = .ok (.aload_n 0, 1) := by decide +kernel
theorem dX5_write_42 : decode cX5_write 42 = .ok (.getfield 28, 3) := by decide +kernel
theorem dX5_write_45 : decode cX5_write 45 = .ok (.iload_n 2, 1) := by decide +kernel
theorem dX5_write_46 : decode cX5_write 46 = .ok (.iaload, 1) := by decide +kernel
theorem dX5_write_47 : decode cX5_write 47 = .ok (.bipush 61, 2) := by decide +kernel
theorem dX5_write_49 : decode cX5_write 49 = .ok (.if_icmp .eq 26, 3) := by decide +kernel
theorem dX5_write_52 : decode cX5_write 52 = .ok (.bipush 10, 2) := by decide +kernel
theorem dX5_write_54 : decode cX5_write 54 = .ok (.iload 4, 2) := by decide +kernel
theorem dX5_write_56 : decode cX5_write 56 = .ok (.imul, 1) := by decide +kernel
theorem dX5_write_57 : decode cX5_write 57 = .ok (.aload_n 0, 1) := by decide +kernel
theorem dX5_write_58 : decode cX5_write 58 = .ok (.getfield 28, 3) := by decide +kernel
theorem dX5_write_61 : decode cX5_write 61 = .ok (.iload_n 2, 1) := by decide +kernel
theorem dX5_write_62 : decode cX5_write 62 = .ok (.iaload, 1) := by decide +kernel
theorem dX5_write_63 : decode cX5_write 63 = .ok (.iadd, 1) := by decide +kernel
theorem dX5_write_64 : decode cX5_write 64 = .ok (.bipush 48, 2) := by decide +kernel
theorem dX5_write_66 : decode cX5_write 66 = .ok (.isub, 1) := by decide +kernel
theorem dX5_write_67 : decode cX5_write 67 = .ok (.istore 4, 2) := by decide +kernel
theorem dX5_write_69 : decode cX5_write 69 = .ok (.iinc 2 1, 3) := by decide +kernel
theorem dX5_write_72 : decode cX5_write 72 = .ok (.goto (-31), 3) := by decide +kernel
theorem dX5_write_75 : decode cX5_write 75 = .ok (.iinc 2 1, 3) := by decide +kernel
theorem dX5_write_78 : decode cX5_write 78 = .ok (.aload_n 0, 1) := by decide +kernel
theorem dX5_write_79 : decode cX5_write 79 = .ok (.iconst 0, 1) := by decide +kernel
theorem dX5_write_80 : decode cX5_write 80 = .ok (.putfield 85, 3) := by decide +kernel
theorem dX5_write_83 : decode cX5_write 83 = .ok (.iload_n 2, 1) := by decide +kernel
theorem dX5_write_84 : decode cX5_write 84 = .ok (.aload_n 0, 1) := by decide +kernel
theorem dX5_write_85 : decode cX5_write 85 = .ok (.getfield 145, 3) := by decide +kernel
theorem dX5_write_88 : decode cX5_write 88 = .ok (.if_icmp .ge 48, 3) := by decide +kernel
theorem dX5_write_91 : decode cX5_write 91 = .ok (.aload_n 0, 1) := by decide +kernel
theorem dX5_write_92 : decode cX5_write 92 = .ok (.getfield 28, 3) := by decide +kernel
theorem dX5_write_95 : decode cX5_write 95 = .ok (.iload_n 2, 1) := by decide +kernel
theorem dX5_write_96 : decode cX5_write 96 = .ok (.iaload, 1) := by decide +kernel
theorem dX5_write_97 : decode cX5_write 97 = .ok (.bipush 59, 2) := by decide +kernel
theorem dX5_write_99 : decode cX5_write 99 = .ok (.if_icmp .eq 37, 3) := by decide +kernel
theorem dX5_write_102 : decode cX5_write 102 = .ok (.aload_n 0, 1) := by decide +kernel
theorem dX5_write_103 : decode cX5_write 103 = .ok (.getfield 31, 3) := by decide +kernel
theorem dX5_write_106 : decode cX5_write 106 = .ok (.aload_n 0, 1) := by decide +kernel
theorem dX5_write_107 : decode cX5_write 107 = .ok (.getfield 85, 3) := by decide +kernel
theorem dX5_write_110 : decode cX5_write 110 = .ok (.aload_n 0, 1) := by decide +kernel
theorem dX5_write_111 : decode cX5_write 111 = .ok (.getfield 28, 3) := by decide +kernel
theorem dX5_write_114 : decode cX5_write 114 = .ok (.iload_n 2, 1) := by decide +kernel
theorem dX5_write_115 : decode cX5_write 115 = .ok (.iaload, 1) := by decide +kernel
theorem dX5_write_116 : decode cX5_write 116 = .ok (.bipush 97, 2) := by decide +kernel
theorem dX5_write_118 : decode cX5_write 118 = .ok (.isub, 1) := by decide +kernel
theorem dX5_write_119 : decode cX5_write 119 = .ok (.iastore, 1) := by decide +kernel
theorem dX5_write_120 : decode cX5_write 120 = .ok (.aload_n 0, 1) := by decide +kernel
theorem dX5_write_121 : decode cX5_write 121 = .ok (.dup, 1) := by decide +kernel
theorem dX5_write_122 : decode cX5_write 122 = .ok (.getfield 85, 3) := by decide +kernel
theorem dX5_write_125 : decode cX5_write 125 = .ok (.iconst 1, 1) := by decide +kernel
theorem dX5_write_126 : decode cX5_write 126 = .ok (.iadd, 1) := by decide +kernel
theorem dX5_write_127 : decode cX5_write 127 = .ok (.putfield 85, 3) := by decide +kernel
theorem dX5_write_130 : decode cX5_write 130 = .ok (.iinc 2 1, 3) := by decide +kernel
theorem dX5_write_133 : decode cX5_write 133 = .ok (.goto (-50), 3) := by decide +kernel
theorem dX5_write_136 : decode cX5_write 136 = .ok (.iinc 2 1, 3) := by decide +kernel
theorem dX5_write_139 : decode cX5_write 139 = .ok (.aload_n 0, 1) := by decide +kernel
theorem dX5_write_140 : decode cX5_write 140 = .ok (.iload 4, 2) := by decide +kernel
theorem dX5_write_142 : decode cX5_write 142 = .ok (.invokevirtual 148, 3) := by decide +kernel
theorem dX5_write_145 : decode cX5_write 145 = .ok (.istore_n 3, 1) := by decide +kernel
theorem dX5_write_146 : decode cX5_write 146 = .ok (.iload_n 1, 1) := by decide +kernel
theorem dX5_write_147 : decode cX5_write 147 = .ok (.iload_n 3, 1) := by decide +kernel
theorem dX5_write_148 : decode cX5_write 148 = .ok (.ifCond .eq 7, 3) := by decide +kernel
theorem dX5_write_151 : decode cX5_write 151 = .ok (.iconst 1, 1) := by decide +kernel
theorem dX5_write_152 : decode cX5_write 152 = .ok (.goto 4, 3) := by decide +kernel
theorem dX5_write_155 : decode cX5_write 155 = .ok (.iconst 0, 1) := by decide +kernel
theorem dX5_write_156 : decode cX5_write 156 = .ok (.iadd, 1) := by decide +kernel
theorem dX5_write_157 : decode cX5_write 157 = .ok (.istore_n 1, 1) := by decide +kernel
theorem dX5_write_158 : decode cX5_write 158 = .ok (.goto (-132), 3) := by decide +kernel
theorem dX5_write_161 : decode cX5_write 161 = .ok (.aload_n 0, 1) := by decide +kernel
theorem dX5_write_162 : decode cX5_write 162 = .ok (.iconst 0, 1) := by decide +kernel
theorem dX5_write_163 : decode cX5_write 163 = .ok (.putfield 145, 3) := by decide +kernel
theorem dX5_write_166 : decode cX5_write 166 = .ok (.iload_n 1, 1) := by decide +kernel
theorem dX5_write_167 : decode cX5_write 167 = .ok (.ireturn, 1) := by decide +kernel
theorem dX5_append_0 : decode cX5_append 0 = .ok (.aload_n 0, 1) := by decide +kernel
theorem dX5_append_1 : decode cX5_append 1 = .ok (.iload_n 1, 1) := by decide +kernel
theorem dX5_append_2 : decode cX5_append 2 = .ok (.invokevirtual 118, 3) := by decide +kernel
theorem dX5_append_5 : decode cX5_append 5 = .ok (.istore_n 3, 1) := by decide +kernel
theorem dX5_append_6 : decode cX5_append 6 = .ok (.iload_n 3, 1) := by decide +kernel
theorem dX5_append_7 : decode cX5_append 7 = .ok (.bipush (-6), 2) := by decide +kernel
theorem dX5_append_9 : decode cX5_append 9 = .ok (.if_icmp .ne 5, 3) := by decide +kernel
theorem dX5_append_12 : decode cX5_append 12 = .ok (.iconst (-1), 1) := by decide +kernel
theorem dX5_append_13 : decode cX5_append 13 = .ok (.ireturn, 1) := by decide +kernel
theorem dX5_append_14 : decode cX5_append 14 = .ok (.iload_n 2, 1) := by decide +kernel
theorem dX5_append_15 : decode cX5_append 15 = .ok (.iconst 0, 1) := by decide +kernel
theorem dX5_append_16 : decode cX5_append 16 = .ok (.bipush 25, 2) := by decide +kernel
theorem dX5_append_18 : decode cX5_append 18 = .ok (.invokestatic 130, 3) := by decide +kernel
theorem dX5_append_21 : decode cX5_append 21 = .ok (.ifCond .ne 6, 3) := by decide +kernel
theorem dX5_append_24 : decode cX5_append 24 = .ok (.bipush (-2), 2) := by decide +kernel
theorem dX5_append_26 : decode cX5_append 26 = .ok (.ireturn, 1) := by decide +kernel
theorem dX5_append_27 : decode cX5_append 27 = .ok (.aload_n 0, 1) := by decide +kernel
theorem dX5_append_28 : decode cX5_append 28 = .ok (.iload_n 3, 1) := by decide +kernel
theorem dX5_append_29 : decode cX5_append 29 = .ok (.iconst 2, 1) := by decide +kernel
theorem dX5_append_30 : decode cX5_append 30 = .ok (.invokevirtual 61, 3) := by decide +kernel
theorem dX5_append_33 : decode cX5_append 33 = .ok (.bipush 40, 2) := by decide +kernel
theorem dX5_append_35 : decode cX5_append 35 = .ok (.if_icmp .ne 6, 3) := by decide +kernel
theorem dX5_append_38 : decode cX5_append 38 = .ok (.bipush (-4), 2) := by decide +kernel
theorem dX5_append_40 : decode cX5_append 40 = .ok (.ireturn, 1) := by decide +kernel
theorem dX5_append_41 : decode cX5_append 41 = .ok (.aload_n 0, 1) := by decide +kernel
theorem dX5_append_42 : decode cX5_append 42 = .ok (.getfield 7, 3) := by decide +kernel
theorem dX5_append_45 : decode cX5_append 45 = .ok (.iconst 0, 1) := by decide +kernel
theorem dX5_append_46 : decode cX5_append 46 = .ok (.aload_n 0, 1) := by decide +kernel
theorem dX5_append_47 : decode cX5_append 47 = .ok (.getfield 13, 3) := by decide +kernel
theorem dX5_append_50 : decode cX5_append 50 = .ok (.iconst 0, 1) := by decide +kernel
theorem dX5_append_51 : decode cX5_append 51 = .ok (.invokestatic 41, 3) := by decide +kernel
theorem dX5_append_54 : decode cX5_append 54 = .ok (.aload_n 0, 1) := by decide +kernel
theorem dX5_append_55 : decode cX5_append 55 = .ok (.iload_n 3, 1) := by decide +kernel
theorem dX5_append_56 : decode cX5_append 56 = .ok (.invokevirtual 151, 3) := by decide +kernel
theorem dX5_append_59 : decode cX5_append 59 = .ok (.aload_n 0, 1) := by decide +kernel
theorem dX5_append_60 : decode cX5_append 60 = .ok (.getfield 31, 3) := by decide +kernel
theorem dX5_append_63 : decode cX5_append 63 = .ok (.aload_n 0, 1) := by decide +kernel
theorem dX5_append_64 : decode cX5_append 64 = .ok (.getfield 85, 3) := by decide +kernel
theorem dX5_append_67 : decode cX5_append 67 = .ok (.iload_n 2, 1) := by decide +kernel
theorem dX5_append_68 : decode cX5_append 68 = .ok (.iastore, 1) := by decide +kernel
theorem dX5_append_69 : decode cX5_append 69 = .ok (.aload_n 0, 1) := by decide +kernel
theorem dX5_append_70 : decode cX5_append 70 = .ok (.dup, 1) := by decide +kernel
theorem dX5_append_71 : decode cX5_append 71 = .ok (.getfield 85, 3) := by decide +kernel
theorem dX5_append_74 : decode cX5_append 74 = .ok (.iconst 1, 1) := by decide +kernel
theorem dX5_append_75 : decode cX5_append 75 = .ok (.iadd, 1) := by decide +kernel
theorem dX5_append_76 : decode cX5_append 76 = .ok (.putfield 85, 3) := by decide +kernel
theorem dX5_append_79 : decode cX5_append 79 = .ok (.aload_n 0, 1) := by decide +kernel
theorem dX5_append_80 : decode cX5_append 80 = .ok (.iload_n 1, 1) := by decide +kernel
theorem dX5_append_81 : decode cX5_append 81 = .ok (.invokevirtual 148, 3) := by decide +kernel
theorem dX5_append_84 : decode cX5_append 84 = .ok (.ifCond .ne 6, 3) := by decide +kernel
theorem dX5_append_87 : decode cX5_append 87 = .ok (.bipush (-5), 2) := by decide +kernel
theorem dX5_append_89 : decode cX5_append 89 = .ok (.ireturn, 1) := by decide +kernel
theorem dX5_append_90 : decode cX5_append 90 = .ok (.aload_n 0, 1) := by decide +kernel
theorem dX5_append_91 : decode cX5_append 91 = .ok (.aload_n 0, 1) := by decide +kernel
theorem dX5_append_92 : decode cX5_append 92 = .ok (.getfield 13, 3) := by decide +kernel
theorem dX5_append_95 : decode cX5_append 95 = .ok (.invokevirtual 138, 3) := by decide +kernel
theorem dX5_append_98 : decode cX5_append 98 = .ok (.aload_n 0, 1) := by decide +kernel
theorem dX5_append_99 : decode cX5_append 99 = .ok (.getfield 85, 3) := by decide +kernel
theorem dX5_append_102 : decode cX5_append 102 = .ok (.ireturn, 1) := by decide +kernel
theorem dX5_delete_0 : decode cX5_delete 0 = .ok (.aload_n 0, 1) := by decide +kernel
theorem dX5_delete_1 : decode cX5_delete 1 = .ok (.iload_n 1, 1) := by decide +kernel
theorem dX5_delete_2 : decode cX5_delete 2 = .ok (.invokevirtual 118, 3) := by decide +kernel
theorem dX5_delete_5 : decode cX5_delete 5 = .ok (.istore_n 2, 1) := by decide +kernel
theorem dX5_delete_6 : decode cX5_delete 6 = .ok (.iload_n 2, 1) := by decide +kernel
theorem dX5_delete_7 : decode cX5_delete 7 = .ok (.bipush (-6), 2) := by decide +kernel
theorem dX5_delete_9 : decode cX5_delete 9 = .ok (.if_icmp .ne 5, 3) := by decide +kernel
theorem dX5_delete_12 : decode cX5_delete 12 = .ok (.iconst (-1), 1) := by decide +kernel
theorem dX5_delete_13 : decode cX5_delete 13 = .ok (.ireturn, 1) := by decide +kernel
theorem dX5_delete_14 : decode cX5_delete 14 = .ok (.aload_n 0, 1) := by decide +kernel
theorem dX5_delete_15 : decode cX5_delete 15 = .ok (.aload_n 0, 1) := by decide +kernel
theorem dX5_delete_16 : decode cX5_delete 16 = .ok (.getfield 7, 3) := by decide +kernel
theorem dX5_delete_19 : decode cX5_delete 19 = .ok (.invokevirtual 138, 3) := by decide +kernel
theorem dX5_delete_22 : decode cX5_delete 22 = .ok (.aload_n 0, 1) := by decide +kernel
theorem dX5_delete_23 : decode cX5_delete 23 = .ok (.iload_n 2, 1) := by decide +kernel
theorem dX5_delete_24 : decode cX5_delete 24 = .ok (.invokevirtual 154, 3) := by decide +kernel
theorem dX5_delete_27 : decode cX5_delete 27 = .ok (.istore_n 3, 1) := by decide +kernel
theorem dX5_delete_28 : decode cX5_delete 28 = .ok (.aload_n 0, 1) := by decide +kernel
theorem dX5_delete_29 : decode cX5_delete 29 = .ok (.iload_n 2, 1) := by decide +kernel
theorem dX5_delete_30 : decode cX5_delete 30 = .ok (.invokevirtual 112, 3) := by decide +kernel
theorem dX5_delete_33 : decode cX5_delete 33 = .ok (.aload_n 0, 1) := by decide +kernel
theorem dX5_delete_34 : decode cX5_delete 34 = .ok (.getfield 7, 3) := by decide +kernel
theorem dX5_delete_37 : decode cX5_delete 37 = .ok (.sipush 363, 3) := by decide +kernel
theorem dX5_delete_40 : decode cX5_delete 40 = .ok (.aload_n 0, 1) := by decide +kernel
theorem dX5_delete_41 : decode cX5_delete 41 = .ok (.iload_n 2, 1) := by decide +kernel
theorem dX5_delete_42 : decode cX5_delete 42 = .ok (.iconst 4, 1) := by decide +kernel
theorem dX5_delete_43 : decode cX5_delete 43 = .ok (.invokevirtual 61, 3) := by decide +kernel
theorem dX5_delete_46 : decode cX5_delete 46 = .ok (.iadd, 1) := by decide +kernel
theorem dX5_delete_47 : decode cX5_delete 47 = .ok (.iconst 0, 1) := by decide +kernel
theorem dX5_delete_48 : decode cX5_delete 48 = .ok (.iastore, 1) := by decide +kernel
theorem dX5_delete_49 : decode cX5_delete 49 = .ok (.aload_n 0, 1) := by decide +kernel
theorem dX5_delete_50 : decode cX5_delete 50 = .ok (.getfield 7, 3) := by decide +kernel
theorem dX5_delete_53 : decode cX5_delete 53 = .ok (.sipush 363, 3) := by decide +kernel
theorem dX5_delete_56 : decode cX5_delete 56 = .ok (.aload_n 0, 1) := by decide +kernel
theorem dX5_delete_57 : decode cX5_delete 57 = .ok (.iload_n 2, 1) := by decide +kernel
theorem dX5_delete_58 : decode cX5_delete 58 = .ok (.iconst 3, 1) := by decide +kernel
theorem dX5_delete_59 : decode cX5_delete 59 = .ok (.invokevirtual 61, 3) := by decide +kernel
theorem dX5_delete_62 : decode cX5_delete 62 = .ok (.iadd, 1) := by decide +kernel
theorem dX5_delete_63 : decode cX5_delete 63 = .ok (.iconst 0, 1) := by decide +kernel
theorem dX5_delete_64 : decode cX5_delete 64 = .ok (.iastore, 1) := by decide +kernel
theorem dX5_delete_65 : decode cX5_delete 65 = .ok (.iconst 0, 1) := by decide +kernel
theorem dX5_delete_66 : decode cX5_delete 66 = .ok (.istore 4, 2) := by decide +kernel
theorem dX5_delete_68 : decode cX5_delete 68 = .ok (.iload 4, 2) := by decide +kernel
theorem dX5_delete_70 : decode cX5_delete 70 = .ok (.bipush 12, 2) := by decide +kernel
theorem dX5_delete_72 : decode cX5_delete 72 = .ok (.if_icmp .ge 17, 3) := by decide +kernel
theorem dX5_delete_75 : decode cX5_delete 75 = .ok (.aload_n 0, 1) := by decide +kernel
theorem dX5_delete_76 : decode cX5_delete 76 = .ok (.iload_n 2, 1) := by decide +kernel
theorem dX5_delete_77 : decode cX5_delete 77 = .ok (.iload 4, 2) := by decide +kernel
theorem dX5_delete_79 : decode cX5_delete 79 = .ok (.iconst 0, 1) := by decide +kernel
theorem dX5_delete_80 : decode cX5_delete 80 = .ok (.invokevirtual 91, 3) := by decide +kernel
theorem dX5_delete_83 : decode cX5_delete 83 = .ok (.iinc 4 1, 3) := by decide +kernel
theorem dX5_delete_86 : decode cX5_delete 86 = .ok (.goto (-18), 3) := by decide +kernel
theorem dX5_delete_89 : decode cX5_delete 89 = .ok (.aload_n 0, 1) := by decide +kernel
theorem dX5_delete_90 : decode cX5_delete 90 = .ok (.getfield 7, 3) := by decide +kernel
theorem dX5_delete_93 : decode cX5_delete 93 = .ok (.iconst 2, 1) := by decide +kernel
theorem dX5_delete_94 : decode cX5_delete 94 = .ok (.dup2, 1) := by decide +kernel
theorem dX5_delete_95 : decode cX5_delete 95 = .ok (.iaload, 1) := by decide +kernel
theorem dX5_delete_96 : decode cX5_delete 96 = .ok (.iconst 1, 1) := by decide +kernel
theorem dX5_delete_97 : decode cX5_delete 97 = .ok (.isub, 1) := by decide +kernel
theorem dX5_delete_98 : decode cX5_delete 98 = .ok (.iastore, 1) := by decide +kernel
theorem dX5_delete_99 : decode cX5_delete 99 = .ok (.iload_n 3, 1) := by decide +kernel
theorem dX5_delete_100 : decode cX5_delete 100 = .ok (.ireturn, 1) := by decide +kernel
theorem dX5_keyAt_0 : decode cX5_keyAt 0 = .ok (.iload_n 1, 1) := by decide +kernel
theorem dX5_keyAt_1 : decode cX5_keyAt 1 = .ok (.istore_n 2, 1) := by decide +kernel
theorem dX5_keyAt_2 : decode cX5_keyAt 2 = .ok (.iconst 0, 1) := by decide +kernel
theorem dX5_keyAt_3 : decode cX5_keyAt 3 = .ok (.istore_n 3, 1) := by decide +kernel
theorem dX5_keyAt_4 : decode cX5_keyAt 4 = .ok (.iload_n 3, 1) := by decide +kernel
theorem dX5_keyAt_5 : decode cX5_keyAt 5 = .ok (.bipush 99, 2) := by decide +kernel
theorem dX5_keyAt_7 : decode cX5_keyAt 7 = .ok (.if_icmp .gt 28, 3) := by decide +kernel
theorem dX5_keyAt_10 : decode cX5_keyAt 10 = .ok (.aload_n 0, 1) := by decide +kernel
theorem dX5_keyAt_11 : decode cX5_keyAt 11 = .ok (.iload_n 3, 1) := by decide +kernel
theorem dX5_keyAt_12 : decode cX5_keyAt 12 = .ok (.invokevirtual 118, 3) := by decide +kernel
theorem dX5_keyAt_15 : decode cX5_keyAt 15 = .ok (.bipush (-6), 2) := by decide +kernel
theorem dX5_keyAt_17 : decode cX5_keyAt 17 = .ok (.if_icmp .eq 12, 3) := by decide +kernel
theorem dX5_keyAt_20 : decode cX5_keyAt 20 = .ok (.iload_n 2, 1) := by decide +kernel
theorem dX5_keyAt_21 : decode cX5_keyAt 21 = .ok (.ifCond .ne 5, 3) := by decide +kernel
theorem dX5_keyAt_24 : decode cX5_keyAt 24 = .ok (.iload_n 3, 1) := by decide +kernel
theorem dX5_keyAt_25 : decode cX5_keyAt 25 = .ok (.ireturn, 1) := by decide +kernel
theorem dX5_keyAt_26 : decode cX5_keyAt 26 = .ok (.iinc 2 (-1), 3) := by decide +kernel
theorem dX5_keyAt_29 : decode cX5_keyAt 29 = .ok (.iinc 3 1, 3) := by decide +kernel
theorem dX5_keyAt_32 : decode cX5_keyAt 32 = .ok (.goto (-28), 3) := by decide +kernel
theorem dX5_keyAt_35 : decode cX5_keyAt 35 = .ok (.bipush (-6), 2) := by decide +kernel
theorem dX5_keyAt_37 : decode cX5_keyAt 37 = .ok (.ireturn, 1) := by decide +kernel
theorem dX5_packs_0 : decode cX5_packs 0 = .ok (.iconst 0, 1) := by decide +kernel
theorem dX5_packs_1 : decode cX5_packs 1 = .ok (.istore_n 1, 1) := by decide +kernel
theorem dX5_packs_2 : decode cX5_packs 2 = .ok (.iload_n 1, 1) := by decide +kernel
theorem dX5_packs_3 : decode cX5_packs 3 = .ok (.sipush 400, 3) := by decide +kernel
theorem dX5_packs_6 : decode cX5_packs 6 = .ok (.if_icmp .ge 20, 3) := by decide +kernel
theorem dX5_packs_9 : decode cX5_packs 9 = .ok (.aload_n 0, 1) := by decide +kernel
theorem dX5_packs_10 : decode cX5_packs 10 = .ok (.getfield 7, 3) := by decide +kernel
theorem dX5_packs_13 : decode cX5_packs 13 = .ok (.sipush 363, 3) := by decide +kernel
theorem dX5_packs_16 : decode cX5_packs 16 = .ok (.iload_n 1, 1) := by decide +kernel
theorem dX5_packs_17 : decode cX5_packs 17 = .ok (.iadd, 1) := by decide +kernel
theorem dX5_packs_18 : decode cX5_packs 18 = .ok (.iconst 0, 1) := by decide +kernel
theorem dX5_packs_19 : decode cX5_packs 19 = .ok (.iastore, 1) := by decide +kernel
theorem dX5_packs_20 : decode cX5_packs 20 = .ok (.iinc 1 1, 3) := by decide +kernel
theorem dX5_packs_23 : decode cX5_packs 23 = .ok (.goto (-21), 3) := by decide +kernel
theorem dX5_packs_26 : decode cX5_packs 26 = .ok (.iconst 1, 1) := by decide +kernel
theorem dX5_packs_27 : decode cX5_packs 27 = .ok (.istore_n 1, 1) := by decide +kernel
theorem dX5_packs_28 : decode cX5_packs 28 = .ok (.iconst 0, 1) := by decide +kernel
theorem dX5_packs_29 : decode cX5_packs 29 = .ok (.istore_n 2, 1) := by decide +kernel
theorem dX5_packs_30 : decode cX5_packs 30 = .ok (.iload_n 2, 1) := by decide +kernel
theorem dX5_packs_31 : decode cX5_packs 31 = .ok (.aload_n 0, 1) := by decide +kernel
theorem dX5_packs_32 : decode cX5_packs 32 = .ok (.getfield 7, 3) := by decide +kernel
theorem dX5_packs_35 : decode cX5_packs 35 = .ok (.iconst 2, 1) := by decide +kernel
theorem dX5_packs_36 : decode cX5_packs 36 = .ok (.iaload, 1) := by decide +kernel
theorem dX5_packs_37 : decode cX5_packs 37 = .ok (.if_icmp .ge 34, 3) := by decide +kernel
theorem dX5_packs_40 : decode cX5_packs 40 = .ok (.iload_n 1, 1) := by decide +kernel
theorem dX5_packs_41 : decode cX5_packs 41 = .ok (.ifCond .eq 30, 3) := by decide +kernel
theorem dX5_packs_44 : decode cX5_packs 44 = .ok (.aload_n 0, 1) := by decide +kernel
theorem dX5_packs_45 : decode cX5_packs 45 = .ok (.aload_n 0, 1) := by decide +kernel
theorem dX5_packs_46 : decode cX5_packs 46 = .ok (.iload_n 2, 1) := by decide +kernel
theorem dX5_packs_47 : decode cX5_packs 47 = .ok (.invokevirtual 157, 3) := by decide +kernel
theorem dX5_packs_50 : decode cX5_packs 50 = .ok (.invokevirtual 118, 3) := by decide +kernel
theorem dX5_packs_53 : decode cX5_packs 53 = .ok (.istore_n 3, 1) := by decide +kernel
theorem dX5_packs_54 : decode cX5_packs 54 = .ok (.aload_n 0, 1) := by decide +kernel
theorem dX5_packs_55 : decode cX5_packs 55 = .ok (.iload_n 3, 1) := by decide +kernel
theorem dX5_packs_56 : decode cX5_packs 56 = .ok (.invokevirtual 151, 3) := by decide +kernel
theorem dX5_packs_59 : decode cX5_packs 59 = .ok (.aload_n 0, 1) := by decide +kernel
theorem dX5_packs_60 : decode cX5_packs 60 = .ok (.iload_n 3, 1) := by decide +kernel
theorem dX5_packs_61 : decode cX5_packs 61 = .ok (.invokevirtual 124, 3) := by decide +kernel
theorem dX5_packs_64 : decode cX5_packs 64 = .ok (.istore_n 1, 1) := by decide +kernel
theorem dX5_packs_65 : decode cX5_packs 65 = .ok (.iinc 2 1, 3) := by decide +kernel
theorem dX5_packs_68 : decode cX5_packs 68 = .ok (.goto (-38), 3) := by decide +kernel
theorem dX5_packs_71 : decode cX5_packs 71 = .ok (.iload_n 1, 1) := by decide +kernel
theorem dX5_packs_72 : decode cX5_packs 72 = .ok (.ireturn, 1) := by decide +kernel
theorem dX5_pagesWith_0 : decode cX5_pagesWith 0 = .ok (.iconst 0, 1) := by decide +kernel
theorem dX5_pagesWith_1 : decode cX5_pagesWith 1 = .ok (.istore_n 1, 1) := by decide +kernel
theorem dX5_pagesWith_2 : decode cX5_pagesWith 2 = .ok (.iconst 0, 1) := by decide +kernel
theorem dX5_pagesWith_3 : decode cX5_pagesWith 3 = .ok (.istore_n 2, 1) := by decide +kernel
theorem dX5_pagesWith_4 : decode cX5_pagesWith 4 = .ok (.iload_n 2, 1) := by decide +kernel
theorem dX5_pagesWith_5 : decode cX5_pagesWith 5 = .ok (.bipush 10, 2) := by decide +kernel
theorem dX5_pagesWith_7 : decode cX5_pagesWith 7 = .ok (.if_icmp .ge 25, 3) := by decide +kernel
theorem dX5_pagesWith_10 : decode cX5_pagesWith 10 = .ok (.iload_n 1, 1) := by decide +kernel
theorem dX5_pagesWith_11 : decode cX5_pagesWith 11 = .ok (.aload_n 0, 1) := by decide +kernel
theorem dX5_pagesWith_12 : decode cX5_pagesWith 12 = .ok (.iload_n 2, 1) := by decide +kernel
theorem dX5_pagesWith_13 : decode cX5_pagesWith 13 = .ok (.invokevirtual 160, 3) := by decide +kernel
theorem dX5_pagesWith_16 : decode cX5_pagesWith 16 = .ok (.ifCond .le 7, 3) := by decide +kernel
theorem dX5_pagesWith_19 : decode cX5_pagesWith 19 = .ok (.iconst 1, 1) := by decide +kernel
theorem dX5_pagesWith_20 : decode cX5_pagesWith 20 = .ok (.goto 4, 3) := by decide +kernel
theorem dX5_pagesWith_23 : decode cX5_pagesWith 23 = .ok (.iconst 0, 1) := by decide +kernel
theorem dX5_pagesWith_24 : decode cX5_pagesWith 24 = .ok (.iadd, 1) := by decide +kernel
theorem dX5_pagesWith_25 : decode cX5_pagesWith 25 = .ok (.istore_n 1, 1) := by decide +kernel
theorem dX5_pagesWith_26 : decode cX5_pagesWith 26 = .ok (.iinc 2 1, 3) := by decide +kernel
theorem dX5_pagesWith_29 : decode cX5_pagesWith 29 = .ok (.goto (-25), 3) := by decide +kernel
theorem dX5_pagesWith_32 : decode cX5_pagesWith 32 = .ok (.iload_n 1, 1) := by decide +kernel
theorem dX5_pagesWith_33 : decode cX5_pagesWith 33 = .ok (.ireturn, 1) := by decide +kernel
theorem dX5_pack_0 : decode cX5_pack 0 = .ok (.aload_n 0, 1) := by decide +kernel
theorem dX5_pack_1 : decode cX5_pack 1 = .ok (.getfield 7, 3) := by decide +kernel
theorem dX5_pack_4 : decode cX5_pack 4 = .ok (.iconst 0, 1) := by decide +kernel
theorem dX5_pack_5 : decode cX5_pack 5 = .ok (.aload_n 0, 1) := by decide +kernel
theorem dX5_pack_6 : decode cX5_pack 6 = .ok (.getfield 13, 3) := by decide +kernel
theorem dX5_pack_9 : decode cX5_pack 9 = .ok (.iconst 0, 1) := by decide +kernel
theorem dX5_pack_10 : decode cX5_pack 10 = .ok (.invokestatic 41, 3) := by decide +kernel
theorem dX5_pack_13 : decode cX5_pack 13 = .ok (.aload_n 0, 1) := by decide +kernel
theorem dX5_pack_14 : decode cX5_pack 14 = .ok (.invokevirtual 163, 3) := by decide +kernel
theorem dX5_pack_17 : decode cX5_pack 17 = .ok (.ifCond .ne 19, 3) := by decide +kernel
theorem dX5_pack_20 : decode cX5_pack 20 = .ok (.aload_n 0, 1) := by decide +kernel
theorem dX5_pack_21 : decode cX5_pack 21 = .ok (.getfield 13, 3) := by decide +kernel
theorem dX5_pack_24 : decode cX5_pack 24 = .ok (.iconst 0, 1) := by decide +kernel
theorem dX5_pack_25 : decode cX5_pack 25 = .ok (.aload_n 0, 1) := by decide +kernel
theorem dX5_pack_26 : decode cX5_pack 26 = .ok (.getfield 7, 3) := by decide +kernel
theorem dX5_pack_29 : decode cX5_pack 29 = .ok (.iconst 0, 1) := by decide +kernel
theorem dX5_pack_30 : decode cX5_pack 30 = .ok (.invokestatic 41, 3) := by decide +kernel
theorem dX5_pack_33 : decode cX5_pack 33 = .ok (.bipush (-5), 2) := by decide +kernel
theorem dX5_pack_35 : decode cX5_pack 35 = .ok (.ireturn, 1) := by decide +kernel
theorem dX5_pack_36 : decode cX5_pack 36 = .ok (.aload_n 0, 1) := by decide +kernel
theorem dX5_pack_37 : decode cX5_pack 37 = .ok (.aload_n 0, 1) := by decide +kernel
theorem dX5_pack_38 : decode cX5_pack 38 = .ok (.getfield 13, 3) := by decide +kernel
theorem dX5_pack_41 : decode cX5_pack 41 = .ok (.invokevirtual 138, 3) := by decide +kernel
theorem dX5_pack_44 : decode cX5_pack 44 = .ok (.aload_n 0, 1) := by decide +kernel
theorem dX5_pack_45 : decode cX5_pack 45 = .ok (.invokevirtual 167, 3) := by decide +kernel
theorem dX5_pack_48 : decode cX5_pack 48 = .ok (.ireturn, 1) := by decide +kernel
theorem dX5_row_0 : decode cX5_row 0 = .ok (.aload_n 0, 1) := by decide +kernel
theorem dX5_row_1 : decode cX5_row 1 = .ok (.iload_n 1, 1) := by decide +kernel
theorem dX5_row_2 : decode cX5_row 2 = .ok (.invokevirtual 118, 3) := by decide +kernel
theorem dX5_row_5 : decode cX5_row 5 = .ok (.istore_n 3, 1) := by decide +kernel
theorem dX5_row_6 : decode cX5_row 6 = .ok (.iload_n 3, 1) := by decide +kernel
theorem dX5_row_7 : decode cX5_row 7 = .ok (.bipush (-6), 2) := by decide +kernel
theorem dX5_row_9 : decode cX5_row 9 = .ok (.if_icmp .ne 5, 3) := by decide +kernel
theorem dX5_row_12 : decode cX5_row 12 = .ok (.iconst (-1), 1) := by decide +kernel
theorem dX5_row_13 : decode cX5_row 13 = .ok (.ireturn, 1) := by decide +kernel
theorem dX5_row_14 : decode cX5_row 14 = .ok (.iload_n 2, 1) := by decide +kernel
theorem dX5_row_15 : decode cX5_row 15 = .ok (.tableswitch 145 0 9 #[53, 60, 70, 80, 90, 100, 114, 123, 133, 139], 53) := by decide +kernel
theorem dX5_row_68 : decode cX5_row 68 = .ok (.aload_n 0, 1) := by decide +kernel
theorem dX5_row_69 : decode cX5_row 69 = .ok (.iload_n 3, 1) := by decide +kernel
theorem dX5_row_70 : decode cX5_row 70 = .ok (.iconst 2, 1) := by decide +kernel
theorem dX5_row_71 : decode cX5_row 71 = .ok (.invokevirtual 61, 3) := by decide +kernel
theorem dX5_row_74 : decode cX5_row 74 = .ok (.ireturn, 1) := by decide +kernel
theorem dX5_row_75 : decode cX5_row 75 = .ok (.aload_n 0, 1) := by decide +kernel
theorem dX5_row_76 : decode cX5_row 76 = .ok (.iload_n 3, 1) := by decide +kernel
theorem dX5_row_77 : decode cX5_row 77 = .ok (.iconst 3, 1) := by decide +kernel
theorem dX5_row_78 : decode cX5_row 78 = .ok (.invokevirtual 61, 3) := by decide +kernel
theorem dX5_row_81 : decode cX5_row 81 = .ok (.bipush 40, 2) := by decide +kernel
theorem dX5_row_83 : decode cX5_row 83 = .ok (.idiv, 1) := by decide +kernel
theorem dX5_row_84 : decode cX5_row 84 = .ok (.ireturn, 1) := by decide +kernel
theorem dX5_row_85 : decode cX5_row 85 = .ok (.aload_n 0, 1) := by decide +kernel
theorem dX5_row_86 : decode cX5_row 86 = .ok (.iload_n 3, 1) := by decide +kernel
theorem dX5_row_87 : decode cX5_row 87 = .ok (.iconst 3, 1) := by decide +kernel
theorem dX5_row_88 : decode cX5_row 88 = .ok (.invokevirtual 61, 3) := by decide +kernel
theorem dX5_row_91 : decode cX5_row 91 = .ok (.bipush 40, 2) := by decide +kernel
theorem dX5_row_93 : decode cX5_row 93 = .ok (.irem, 1) := by decide +kernel
theorem dX5_row_94 : decode cX5_row 94 = .ok (.ireturn, 1) := by decide +kernel
theorem dX5_row_95 : decode cX5_row 95 = .ok (.aload_n 0, 1) := by decide +kernel
theorem dX5_row_96 : decode cX5_row 96 = .ok (.iload_n 3, 1) := by decide +kernel
theorem dX5_row_97 : decode cX5_row 97 = .ok (.iconst 4, 1) := by decide +kernel
theorem dX5_row_98 : decode cX5_row 98 = .ok (.invokevirtual 61, 3) := by decide +kernel
theorem dX5_row_101 : decode cX5_row 101 = .ok (.bipush 40, 2) := by decide +kernel
theorem dX5_row_103 : decode cX5_row 103 = .ok (.idiv, 1) := by decide +kernel
theorem dX5_row_104 : decode cX5_row 104 = .ok (.ireturn, 1) := by decide +kernel
theorem dX5_row_105 : decode cX5_row 105 = .ok (.aload_n 0, 1) := by decide +kernel
theorem dX5_row_106 : decode cX5_row 106 = .ok (.iload_n 3, 1) := by decide +kernel
theorem dX5_row_107 : decode cX5_row 107 = .ok (.iconst 4, 1) := by decide +kernel
theorem dX5_row_108 : decode cX5_row 108 = .ok (.invokevirtual 61, 3) := by decide +kernel
theorem dX5_row_111 : decode cX5_row 111 = .ok (.bipush 40, 2) := by decide +kernel
theorem dX5_row_113 : decode cX5_row 113 = .ok (.irem, 1) := by decide +kernel
theorem dX5_row_114 : decode cX5_row 114 = .ok (.ireturn, 1) := by decide +kernel
theorem dX5_row_115 : decode cX5_row 115 = .ok (.aload_n 0, 1) := by decide +kernel
theorem dX5_row_116 : decode cX5_row 116 = .ok (.iload_n 3, 1) := by decide +kernel
theorem dX5_row_117 : decode cX5_row 117 = .ok (.invokevirtual 81, 3) := by decide +kernel
theorem dX5_row_120 : decode cX5_row 120 = .ok (.ifCond .eq 7, 3) := by decide +kernel
theorem dX5_row_123 : decode cX5_row 123 = .ok (.iconst 1, 1) := by decide +kernel
theorem dX5_row_124 : decode cX5_row 124 = .ok (.goto 4, 3) := by decide +kernel
theorem dX5_row_127 : decode cX5_row 127 = .ok (.iconst 0, 1) := by decide +kernel
theorem dX5_row_128 : decode cX5_row 128 = .ok (.ireturn, 1) := by decide +kernel
theorem dX5_row_129 : decode cX5_row 129 = .ok (.aload_n 0, 1) := by decide +kernel
theorem dX5_row_130 : decode cX5_row 130 = .ok (.iload_n 3, 1) := by decide +kernel
theorem dX5_row_131 : decode cX5_row 131 = .ok (.invokevirtual 78, 3) := by decide +kernel
theorem dX5_row_134 : decode cX5_row 134 = .ok (.invokestatic 49, 3) := by decide +kernel
theorem dX5_row_137 : decode cX5_row 137 = .ok (.ireturn, 1) := by decide +kernel
theorem dX5_row_138 : decode cX5_row 138 = .ok (.aload_n 0, 1) := by decide +kernel
theorem dX5_row_139 : decode cX5_row 139 = .ok (.iload_n 3, 1) := by decide +kernel
theorem dX5_row_140 : decode cX5_row 140 = .ok (.invokevirtual 74, 3) := by decide +kernel
theorem dX5_row_143 : decode cX5_row 143 = .ok (.aload_n 0, 1) := by decide +kernel
theorem dX5_row_144 : decode cX5_row 144 = .ok (.getfield 65, 3) := by decide +kernel
theorem dX5_row_147 : decode cX5_row 147 = .ok (.ireturn, 1) := by decide +kernel
theorem dX5_row_148 : decode cX5_row 148 = .ok (.aload_n 0, 1) := by decide +kernel
theorem dX5_row_149 : decode cX5_row 149 = .ok (.iload_n 3, 1) := by decide +kernel
theorem dX5_row_150 : decode cX5_row 150 = .ok (.invokevirtual 170, 3) := by decide +kernel
theorem dX5_row_153 : decode cX5_row 153 = .ok (.ireturn, 1) := by decide +kernel
theorem dX5_row_154 : decode cX5_row 154 = .ok (.aload_n 0, 1) := by decide +kernel
theorem dX5_row_155 : decode cX5_row 155 = .ok (.iload_n 3, 1) := by decide +kernel
theorem dX5_row_156 : decode cX5_row 156 = .ok (.invokevirtual 154, 3) := by decide +kernel
theorem dX5_row_159 : decode cX5_row 159 = .ok (.ireturn, 1) := by decide +kernel
theorem dX5_row_160 : decode cX5_row 160 = .ok (.bipush (-2), 2) := by decide +kernel
theorem dX5_row_162 : decode cX5_row 162 = .ok (.ireturn, 1) := by decide +kernel
theorem dX5_letter_0 : decode cX5_letter 0 = .ok (.aload_n 0, 1) := by decide +kernel
theorem dX5_letter_1 : decode cX5_letter 1 = .ok (.iload_n 1, 1) := by decide +kernel
theorem dX5_letter_2 : decode cX5_letter 2 = .ok (.invokevirtual 118, 3) := by decide +kernel
theorem dX5_letter_5 : decode cX5_letter 5 = .ok (.istore_n 3, 1) := by decide +kernel
theorem dX5_letter_6 : decode cX5_letter 6 = .ok (.iload_n 3, 1) := by decide +kernel
theorem dX5_letter_7 : decode cX5_letter 7 = .ok (.bipush (-6), 2) := by decide +kernel
theorem dX5_letter_9 : decode cX5_letter 9 = .ok (.if_icmp .eq 28, 3) := by decide +kernel
theorem dX5_letter_12 : decode cX5_letter 12 = .ok (.iload_n 2, 1) := by decide +kernel
theorem dX5_letter_13 : decode cX5_letter 13 = .ok (.iconst 0, 1) := by decide +kernel
theorem dX5_letter_14 : decode cX5_letter 14 = .ok (.aload_n 0, 1) := by decide +kernel
theorem dX5_letter_15 : decode cX5_letter 15 = .ok (.iload_n 3, 1) := by decide +kernel
theorem dX5_letter_16 : decode cX5_letter 16 = .ok (.iconst 2, 1) := by decide +kernel
theorem dX5_letter_17 : decode cX5_letter 17 = .ok (.invokevirtual 61, 3) := by decide +kernel
theorem dX5_letter_20 : decode cX5_letter 20 = .ok (.iconst 1, 1) := by decide +kernel
theorem dX5_letter_21 : decode cX5_letter 21 = .ok (.isub, 1) := by decide +kernel
theorem dX5_letter_22 : decode cX5_letter 22 = .ok (.invokestatic 130, 3) := by decide +kernel
theorem dX5_letter_25 : decode cX5_letter 25 = .ok (.ifCond .eq 12, 3) := by decide +kernel
theorem dX5_letter_28 : decode cX5_letter 28 = .ok (.aload_n 0, 1) := by decide +kernel
theorem dX5_letter_29 : decode cX5_letter 29 = .ok (.iload_n 3, 1) := by decide +kernel
theorem dX5_letter_30 : decode cX5_letter 30 = .ok (.iload_n 2, 1) := by decide +kernel
theorem dX5_letter_31 : decode cX5_letter 31 = .ok (.invokevirtual 88, 3) := by decide +kernel
theorem dX5_letter_34 : decode cX5_letter 34 = .ok (.goto 4, 3) := by decide +kernel
theorem dX5_letter_37 : decode cX5_letter 37 = .ok (.iconst (-1), 1) := by decide +kernel
theorem dX5_letter_38 : decode cX5_letter 38 = .ok (.ireturn, 1) := by decide +kernel
theorem dX5_piece_0 : decode cX5_piece 0 = .ok (.aload_n 0, 1) := by decide +kernel
theorem dX5_piece_1 : decode cX5_piece 1 = .ok (.iload_n 1, 1) := by decide +kernel
theorem dX5_piece_2 : decode cX5_piece 2 = .ok (.invokevirtual 118, 3) := by decide +kernel
theorem dX5_piece_5 : decode cX5_piece 5 = .ok (.istore 4, 2) := by decide +kernel
theorem dX5_piece_7 : decode cX5_piece 7 = .ok (.iload 4, 2) := by decide +kernel
theorem dX5_piece_9 : decode cX5_piece 9 = .ok (.bipush (-6), 2) := by decide +kernel
theorem dX5_piece_11 : decode cX5_piece 11 = .ok (.if_icmp .ne 5, 3) := by decide +kernel
theorem dX5_piece_14 : decode cX5_piece 14 = .ok (.iconst (-1), 1) := by decide +kernel
theorem dX5_piece_15 : decode cX5_piece 15 = .ok (.ireturn, 1) := by decide +kernel
theorem dX5_piece_16 : decode cX5_piece 16 = .ok (.aload_n 0, 1) := by decide +kernel
theorem dX5_piece_17 : decode cX5_piece 17 = .ok (.iload 4, 2) := by decide +kernel
theorem dX5_piece_19 : decode cX5_piece 19 = .ok (.invokevirtual 74, 3) := by decide +kernel
theorem dX5_piece_22 : decode cX5_piece 22 = .ok (.iload_n 2, 1) := by decide +kernel
theorem dX5_piece_23 : decode cX5_piece 23 = .ok (.iconst 0, 1) := by decide +kernel
theorem dX5_piece_24 : decode cX5_piece 24 = .ok (.aload_n 0, 1) := by decide +kernel
theorem dX5_piece_25 : decode cX5_piece 25 = .ok (.getfield 65, 3) := by decide +kernel
theorem dX5_piece_28 : decode cX5_piece 28 = .ok (.iconst 1, 1) := by decide +kernel
theorem dX5_piece_29 : decode cX5_piece 29 = .ok (.isub, 1) := by decide +kernel
theorem dX5_piece_30 : decode cX5_piece 30 = .ok (.invokestatic 130, 3) := by decide +kernel
theorem dX5_piece_33 : decode cX5_piece 33 = .ok (.ifCond .ne 5, 3) := by decide +kernel
theorem dX5_piece_36 : decode cX5_piece 36 = .ok (.iconst (-1), 1) := by decide +kernel
theorem dX5_piece_37 : decode cX5_piece 37 = .ok (.ireturn, 1) := by decide +kernel
theorem dX5_piece_38 : decode cX5_piece 38 = .ok (.iload_n 3, 1) := by decide +kernel
theorem dX5_piece_39 : decode cX5_piece 39 = .ok (.tableswitch 64 0 2 #[25, 35, 45], 25) := by decide +kernel
theorem dX5_piece_64 : decode cX5_piece 64 = .ok (.aload_n 0, 1) := by decide +kernel
theorem dX5_piece_65 : decode cX5_piece 65 = .ok (.getfield 34, 3) := by decide +kernel
theorem dX5_piece_68 : decode cX5_piece 68 = .ok (.iload_n 2, 1) := by decide +kernel
theorem dX5_piece_69 : decode cX5_piece 69 = .ok (.iaload, 1) := by decide +kernel
theorem dX5_piece_70 : decode cX5_piece 70 = .ok (.bipush 40, 2) := by decide +kernel
theorem dX5_piece_72 : decode cX5_piece 72 = .ok (.idiv, 1) := by decide +kernel
theorem dX5_piece_73 : decode cX5_piece 73 = .ok (.ireturn, 1) := by decide +kernel
theorem dX5_piece_74 : decode cX5_piece 74 = .ok (.aload_n 0, 1) := by decide +kernel
theorem dX5_piece_75 : decode cX5_piece 75 = .ok (.getfield 34, 3) := by decide +kernel
theorem dX5_piece_78 : decode cX5_piece 78 = .ok (.iload_n 2, 1) := by decide +kernel
theorem dX5_piece_79 : decode cX5_piece 79 = .ok (.iaload, 1) := by decide +kernel
theorem dX5_piece_80 : decode cX5_piece 80 = .ok (.bipush 40, 2) := by decide +kernel
theorem dX5_piece_82 : decode cX5_piece 82 = .ok (.irem, 1) := by decide +kernel
theorem dX5_piece_83 : decode cX5_piece 83 = .ok (.ireturn, 1) := by decide +kernel
theorem dX5_piece_84 : decode cX5_piece 84 = .ok (.aload_n 0, 1) := by decide +kernel
theorem dX5_piece_85 : decode cX5_piece 85 = .ok (.getfield 7, 3) := by decide +kernel
theorem dX5_piece_88 : decode cX5_piece 88 = .ok (.sipush 363, 3) := by decide +kernel
theorem dX5_piece_91 : decode cX5_piece 91 = .ok (.aload_n 0, 1) := by decide +kernel
theorem dX5_piece_92 : decode cX5_piece 92 = .ok (.getfield 34, 3) := by decide +kernel
theorem dX5_piece_95 : decode cX5_piece 95 = .ok (.iload_n 2, 1) := by decide +kernel
theorem dX5_piece_96 : decode cX5_piece 96 = .ok (.iaload, 1) := by decide +kernel
theorem dX5_piece_97 : decode cX5_piece 97 = .ok (.iadd, 1) := by decide +kernel
theorem dX5_piece_98 : decode cX5_piece 98 = .ok (.iaload, 1) := by decide +kernel
theorem dX5_piece_99 : decode cX5_piece 99 = .ok (.invokestatic 49, 3) := by decide +kernel
theorem dX5_piece_102 : decode cX5_piece 102 = .ok (.ireturn, 1) := by decide +kernel
theorem dX5_piece_103 : decode cX5_piece 103 = .ok (.bipush (-2), 2) := by decide +kernel
theorem dX5_piece_105 : decode cX5_piece 105 = .ok (.ireturn, 1) := by decide +kernel
theorem dX5_page_0 : decode cX5_page 0 = .ok (.iload_n 1, 1) := by decide +kernel
theorem dX5_page_1 : decode cX5_page 1 = .ok (.iconst 0, 1) := by decide +kernel
theorem dX5_page_2 : decode cX5_page 2 = .ok (.bipush 9, 2) := by decide +kernel
theorem dX5_page_4 : decode cX5_page 4 = .ok (.invokestatic 130, 3) := by decide +kernel
theorem dX5_page_7 : decode cX5_page 7 = .ok (.ifCond .ne 5, 3) := by decide +kernel
theorem dX5_page_10 : decode cX5_page 10 = .ok (.iconst (-1), 1) := by decide +kernel
theorem dX5_page_11 : decode cX5_page 11 = .ok (.ireturn, 1) := by decide +kernel
theorem dX5_page_12 : decode cX5_page 12 = .ok (.iload_n 2, 1) := by decide +kernel
theorem dX5_page_13 : decode cX5_page 13 = .ok (.tableswitch 85 0 5 #[39, 45, 51, 58, 65, 72], 39) := by decide +kernel
theorem dX5_page_52 : decode cX5_page 52 = .ok (.aload_n 0, 1) := by decide +kernel
theorem dX5_page_53 : decode cX5_page 53 = .ok (.iload_n 1, 1) := by decide +kernel
theorem dX5_page_54 : decode cX5_page 54 = .ok (.invokevirtual 55, 3) := by decide +kernel
theorem dX5_page_57 : decode cX5_page 57 = .ok (.ireturn, 1) := by decide +kernel
theorem dX5_page_58 : decode cX5_page 58 = .ok (.aload_n 0, 1) := by decide +kernel
theorem dX5_page_59 : decode cX5_page 59 = .ok (.iload_n 1, 1) := by decide +kernel
theorem dX5_page_60 : decode cX5_page 60 = .ok (.invokevirtual 160, 3) := by decide +kernel
theorem dX5_page_63 : decode cX5_page 63 = .ok (.ireturn, 1) := by decide +kernel
theorem dX5_page_64 : decode cX5_page 64 = .ok (.aload_n 0, 1) := by decide +kernel
theorem dX5_page_65 : decode cX5_page 65 = .ok (.iload_n 1, 1) := by decide +kernel
theorem dX5_page_66 : decode cX5_page 66 = .ok (.iconst 1, 1) := by decide +kernel
theorem dX5_page_67 : decode cX5_page 67 = .ok (.invokevirtual 173, 3) := by decide +kernel
theorem dX5_page_70 : decode cX5_page 70 = .ok (.ireturn, 1) := by decide +kernel
theorem dX5_page_71 : decode cX5_page 71 = .ok (.aload_n 0, 1) := by decide +kernel
theorem dX5_page_72 : decode cX5_page 72 = .ok (.iload_n 1, 1) := by decide +kernel
theorem dX5_page_73 : decode cX5_page 73 = .ok (.iconst 2, 1) := by decide +kernel
theorem dX5_page_74 : decode cX5_page 74 = .ok (.invokevirtual 173, 3) := by decide +kernel
theorem dX5_page_77 : decode cX5_page 77 = .ok (.ireturn, 1) := by decide +kernel
theorem dX5_page_78 : decode cX5_page 78 = .ok (.aload_n 0, 1) := by decide +kernel
theorem dX5_page_79 : decode cX5_page 79 = .ok (.iload_n 1, 1) := by decide +kernel
theorem dX5_page_80 : decode cX5_page 80 = .ok (.iconst 3, 1) := by decide +kernel
theorem dX5_page_81 : decode cX5_page 81 = .ok (.invokevirtual 173, 3) := by decide +kernel
theorem dX5_page_84 : decode cX5_page 84 = .ok (.ireturn, 1) := by decide +kernel
theorem dX5_page_85 : decode cX5_page 85 = .ok (.aload_n 0, 1) := by decide +kernel
theorem dX5_page_86 : decode cX5_page 86 = .ok (.iload_n 1, 1) := by decide +kernel
theorem dX5_page_87 : decode cX5_page 87 = .ok (.invokevirtual 160, 3) := by decide +kernel
theorem dX5_page_90 : decode cX5_page 90 = .ok (.aload_n 0, 1) := by decide +kernel
theorem dX5_page_91 : decode cX5_page 91 = .ok (.iload_n 1, 1) := by decide +kernel
theorem dX5_page_92 : decode cX5_page 92 = .ok (.iconst 0, 1) := by decide +kernel
theorem dX5_page_93 : decode cX5_page 93 = .ok (.invokevirtual 173, 3) := by decide +kernel
theorem dX5_page_96 : decode cX5_page 96 = .ok (.isub, 1) := by decide +kernel
theorem dX5_page_97 : decode cX5_page 97 = .ok (.ireturn, 1) := by decide +kernel
theorem dX5_page_98 : decode cX5_page 98 = .ok (.bipush (-2), 2) := by decide +kernel
theorem dX5_page_100 : decode cX5_page 100 = .ok (.ireturn, 1) := by decide +kernel
theorem dX5_slot_0 : decode cX5_slot 0 = .ok (.iload_n 1, 1) := by decide +kernel
theorem dX5_slot_1 : decode cX5_slot 1 = .ok (.iconst 0, 1) := by decide +kernel
theorem dX5_slot_2 : decode cX5_slot 2 = .ok (.bipush 9, 2) := by decide +kernel
theorem dX5_slot_4 : decode cX5_slot 4 = .ok (.invokestatic 130, 3) := by decide +kernel
theorem dX5_slot_7 : decode cX5_slot 7 = .ok (.ifCond .eq 18, 3) := by decide +kernel
theorem dX5_slot_10 : decode cX5_slot 10 = .ok (.iload_n 2, 1) := by decide +kernel
theorem dX5_slot_11 : decode cX5_slot 11 = .ok (.iconst 0, 1) := by decide +kernel
theorem dX5_slot_12 : decode cX5_slot 12 = .ok (.aload_n 0, 1) := by decide +kernel
theorem dX5_slot_13 : decode cX5_slot 13 = .ok (.iload_n 1, 1) := by decide +kernel
theorem dX5_slot_14 : decode cX5_slot 14 = .ok (.invokevirtual 160, 3) := by decide +kernel
theorem dX5_slot_17 : decode cX5_slot 17 = .ok (.iconst 1, 1) := by decide +kernel
theorem dX5_slot_18 : decode cX5_slot 18 = .ok (.isub, 1) := by decide +kernel
theorem dX5_slot_19 : decode cX5_slot 19 = .ok (.invokestatic 130, 3) := by decide +kernel
theorem dX5_slot_22 : decode cX5_slot 22 = .ok (.ifCond .ne 5, 3) := by decide +kernel
theorem dX5_slot_25 : decode cX5_slot 25 = .ok (.iconst (-1), 1) := by decide +kernel
theorem dX5_slot_26 : decode cX5_slot 26 = .ok (.ireturn, 1) := by decide +kernel
theorem dX5_slot_27 : decode cX5_slot 27 = .ok (.aload_n 0, 1) := by decide +kernel
theorem dX5_slot_28 : decode cX5_slot 28 = .ok (.getfield 7, 3) := by decide +kernel
theorem dX5_slot_31 : decode cX5_slot 31 = .ok (.sipush 363, 3) := by decide +kernel
theorem dX5_slot_34 : decode cX5_slot 34 = .ok (.bipush 40, 2) := by decide +kernel
theorem dX5_slot_36 : decode cX5_slot 36 = .ok (.iload_n 1, 1) := by decide +kernel
theorem dX5_slot_37 : decode cX5_slot 37 = .ok (.imul, 1) := by decide +kernel
theorem dX5_slot_38 : decode cX5_slot 38 = .ok (.iadd, 1) := by decide +kernel
theorem dX5_slot_39 : decode cX5_slot 39 = .ok (.iload_n 2, 1) := by decide +kernel
theorem dX5_slot_40 : decode cX5_slot 40 = .ok (.iadd, 1) := by decide +kernel
theorem dX5_slot_41 : decode cX5_slot 41 = .ok (.iaload, 1) := by decide +kernel
theorem dX5_slot_42 : decode cX5_slot 42 = .ok (.istore 4, 2) := by decide +kernel
theorem dX5_slot_44 : decode cX5_slot 44 = .ok (.iload_n 3, 1) := by decide +kernel
theorem dX5_slot_45 : decode cX5_slot 45 = .ok (.tableswitch 60 0 2 #[27, 33, 54], 27) := by decide +kernel
theorem dX5_slot_72 : decode cX5_slot 72 = .ok (.iload 4, 2) := by decide +kernel
theorem dX5_slot_74 : decode cX5_slot 74 = .ok (.invokestatic 45, 3) := by decide +kernel
theorem dX5_slot_77 : decode cX5_slot 77 = .ok (.ireturn, 1) := by decide +kernel
theorem dX5_slot_78 : decode cX5_slot 78 = .ok (.iload 4, 2) := by decide +kernel
theorem dX5_slot_80 : decode cX5_slot 80 = .ok (.ifCond .ne 8, 3) := by decide +kernel
theorem dX5_slot_83 : decode cX5_slot 83 = .ok (.bipush (-6), 2) := by decide +kernel
theorem dX5_slot_85 : decode cX5_slot 85 = .ok (.goto 13, 3) := by decide +kernel
theorem dX5_slot_88 : decode cX5_slot 88 = .ok (.aload_n 0, 1) := by decide +kernel
theorem dX5_slot_89 : decode cX5_slot 89 = .ok (.iload 4, 2) := by decide +kernel
theorem dX5_slot_91 : decode cX5_slot 91 = .ok (.invokestatic 68, 3) := by decide +kernel
theorem dX5_slot_94 : decode cX5_slot 94 = .ok (.iconst 1, 1) := by decide +kernel
theorem dX5_slot_95 : decode cX5_slot 95 = .ok (.invokevirtual 61, 3) := by decide +kernel
theorem dX5_slot_98 : decode cX5_slot 98 = .ok (.ireturn, 1) := by decide +kernel
theorem dX5_slot_99 : decode cX5_slot 99 = .ok (.iload 4, 2) := by decide +kernel
theorem dX5_slot_101 : decode cX5_slot 101 = .ok (.invokestatic 52, 3) := by decide +kernel
theorem dX5_slot_104 : decode cX5_slot 104 = .ok (.ireturn, 1) := by decide +kernel
theorem dX5_slot_105 : decode cX5_slot 105 = .ok (.bipush (-2), 2) := by decide +kernel
theorem dX5_slot_107 : decode cX5_slot 107 = .ok (.ireturn, 1) := by decide +kernel
theorem dX5_thingsOf_0 : decode cX5_thingsOf 0 = .ok (.iconst 0, 1) := by decide +kernel
theorem dX5_thingsOf_1 : decode cX5_thingsOf 1 = .ok (.istore_n 2, 1) := by decide +kernel
theorem dX5_thingsOf_2 : decode cX5_thingsOf 2 = .ok (.iconst 0, 1) := by decide +kernel
theorem dX5_thingsOf_3 : decode cX5_thingsOf 3 = .ok (.istore_n 3, 1) := by decide +kernel
theorem dX5_thingsOf_4 : decode cX5_thingsOf 4 = .ok (.iload_n 3, 1) := by decide +kernel
theorem dX5_thingsOf_5 : decode cX5_thingsOf 5 = .ok (.bipush 10, 2) := by decide +kernel
theorem dX5_thingsOf_7 : decode cX5_thingsOf 7 = .ok (.if_icmp .ge 18, 3) := by decide +kernel
theorem dX5_thingsOf_10 : decode cX5_thingsOf 10 = .ok (.iload_n 2, 1) := by decide +kernel
theorem dX5_thingsOf_11 : decode cX5_thingsOf 11 = .ok (.aload_n 0, 1) := by decide +kernel
theorem dX5_thingsOf_12 : decode cX5_thingsOf 12 = .ok (.iload_n 3, 1) := by decide +kernel
theorem dX5_thingsOf_13 : decode cX5_thingsOf 13 = .ok (.iload_n 1, 1) := by decide +kernel
theorem dX5_thingsOf_14 : decode cX5_thingsOf 14 = .ok (.invokevirtual 173, 3) := by decide +kernel
theorem dX5_thingsOf_17 : decode cX5_thingsOf 17 = .ok (.iadd, 1) := by decide +kernel
theorem dX5_thingsOf_18 : decode cX5_thingsOf 18 = .ok (.istore_n 2, 1) := by decide +kernel
theorem dX5_thingsOf_19 : decode cX5_thingsOf 19 = .ok (.iinc 3 1, 3) := by decide +kernel
theorem dX5_thingsOf_22 : decode cX5_thingsOf 22 = .ok (.goto (-18), 3) := by decide +kernel
theorem dX5_thingsOf_25 : decode cX5_thingsOf 25 = .ok (.iload_n 2, 1) := by decide +kernel
theorem dX5_thingsOf_26 : decode cX5_thingsOf 26 = .ok (.ireturn, 1) := by decide +kernel
theorem dX5_allFree_0 : decode cX5_allFree 0 = .ok (.iconst 0, 1) := by decide +kernel
theorem dX5_allFree_1 : decode cX5_allFree 1 = .ok (.istore_n 1, 1) := by decide +kernel
theorem dX5_allFree_2 : decode cX5_allFree 2 = .ok (.iconst 0, 1) := by decide +kernel
theorem dX5_allFree_3 : decode cX5_allFree 3 = .ok (.istore_n 2, 1) := by decide +kernel
theorem dX5_allFree_4 : decode cX5_allFree 4 = .ok (.iload_n 2, 1) := by decide +kernel
theorem dX5_allFree_5 : decode cX5_allFree 5 = .ok (.bipush 10, 2) := by decide +kernel
theorem dX5_allFree_7 : decode cX5_allFree 7 = .ok (.if_icmp .ge 17, 3) := by decide +kernel
theorem dX5_allFree_10 : decode cX5_allFree 10 = .ok (.iload_n 1, 1) := by decide +kernel
theorem dX5_allFree_11 : decode cX5_allFree 11 = .ok (.aload_n 0, 1) := by decide +kernel
theorem dX5_allFree_12 : decode cX5_allFree 12 = .ok (.iload_n 2, 1) := by decide +kernel
theorem dX5_allFree_13 : decode cX5_allFree 13 = .ok (.invokevirtual 55, 3) := by decide +kernel
theorem dX5_allFree_16 : decode cX5_allFree 16 = .ok (.iadd, 1) := by decide +kernel
theorem dX5_allFree_17 : decode cX5_allFree 17 = .ok (.istore_n 1, 1) := by decide +kernel
theorem dX5_allFree_18 : decode cX5_allFree 18 = .ok (.iinc 2 1, 3) := by decide +kernel
theorem dX5_allFree_21 : decode cX5_allFree 21 = .ok (.goto (-17), 3) := by decide +kernel
theorem dX5_allFree_24 : decode cX5_allFree 24 = .ok (.iload_n 1, 1) := by decide +kernel
theorem dX5_allFree_25 : decode cX5_allFree 25 = .ok (.ireturn, 1) := by decide +kernel
theorem dX5_sumOfCosts_0 : decode cX5_sumOfCosts 0 = .ok (.iconst 0, 1) := by decide +kernel
theorem dX5_sumOfCosts_1 : decode cX5_sumOfCosts 1 = .ok (.istore_n 1, 1) := by decide +kernel
theorem dX5_sumOfCosts_2 : decode cX5_sumOfCosts 2 = .ok (.iconst 0, 1) := by decide +kernel
theorem dX5_sumOfCosts_3 : decode cX5_sumOfCosts 3 = .ok (.istore_n 2, 1) := by decide +kernel
theorem dX5_sumOfCosts_4 : decode cX5_sumOfCosts 4 = .ok (.iload_n 2, 1) := by decide +kernel
theorem dX5_sumOfCosts_5 : decode cX5_sumOfCosts 5 = .ok (.bipush 30, 2) := by decide +kernel
theorem dX5_sumOfCosts_7 : decode cX5_sumOfCosts 7 = .ok (.if_icmp .ge 31, 3) := by decide +kernel
theorem dX5_sumOfCosts_10 : decode cX5_sumOfCosts 10 = .ok (.iload_n 1, 1) := by decide +kernel
theorem dX5_sumOfCosts_11 : decode cX5_sumOfCosts 11 = .ok (.aload_n 0, 1) := by decide +kernel
theorem dX5_sumOfCosts_12 : decode cX5_sumOfCosts 12 = .ok (.iload_n 2, 1) := by decide +kernel
theorem dX5_sumOfCosts_13 : decode cX5_sumOfCosts 13 = .ok (.iconst 0, 1) := by decide +kernel
theorem dX5_sumOfCosts_14 : decode cX5_sumOfCosts 14 = .ok (.invokevirtual 61, 3) := by decide +kernel
theorem dX5_sumOfCosts_17 : decode cX5_sumOfCosts 17 = .ok (.iconst 1, 1) := by decide +kernel
theorem dX5_sumOfCosts_18 : decode cX5_sumOfCosts 18 = .ok (.if_icmp .ne 11, 3) := by decide +kernel
theorem dX5_sumOfCosts_21 : decode cX5_sumOfCosts 21 = .ok (.aload_n 0, 1) := by decide +kernel
theorem dX5_sumOfCosts_22 : decode cX5_sumOfCosts 22 = .ok (.iload_n 2, 1) := by decide +kernel
theorem dX5_sumOfCosts_23 : decode cX5_sumOfCosts 23 = .ok (.invokevirtual 170, 3) := by decide +kernel
theorem dX5_sumOfCosts_26 : decode cX5_sumOfCosts 26 = .ok (.goto 4, 3) := by decide +kernel
theorem dX5_sumOfCosts_29 : decode cX5_sumOfCosts 29 = .ok (.iconst 0, 1) := by decide +kernel
theorem dX5_sumOfCosts_30 : decode cX5_sumOfCosts 30 = .ok (.iadd, 1) := by decide +kernel
theorem dX5_sumOfCosts_31 : decode cX5_sumOfCosts 31 = .ok (.istore_n 1, 1) := by decide +kernel
theorem dX5_sumOfCosts_32 : decode cX5_sumOfCosts 32 = .ok (.iinc 2 1, 3) := by decide +kernel
theorem dX5_sumOfCosts_35 : decode cX5_sumOfCosts 35 = .ok (.goto (-31), 3) := by decide +kernel
theorem dX5_sumOfCosts_38 : decode cX5_sumOfCosts 38 = .ok (.iload_n 1, 1) := by decide +kernel
theorem dX5_sumOfCosts_39 : decode cX5_sumOfCosts 39 = .ok (.ireturn, 1) := by decide +kernel
theorem dX5_greatestCost_0 : decode cX5_greatestCost 0 = .ok (.bipush (-6), 2) := by decide +kernel
theorem dX5_greatestCost_2 : decode cX5_greatestCost 2 = .ok (.istore_n 1, 1) := by decide +kernel
theorem dX5_greatestCost_3 : decode cX5_greatestCost 3 = .ok (.iconst 0, 1) := by decide +kernel
theorem dX5_greatestCost_4 : decode cX5_greatestCost 4 = .ok (.istore_n 2, 1) := by decide +kernel
theorem dX5_greatestCost_5 : decode cX5_greatestCost 5 = .ok (.iload_n 2, 1) := by decide +kernel
theorem dX5_greatestCost_6 : decode cX5_greatestCost 6 = .ok (.bipush 30, 2) := by decide +kernel
theorem dX5_greatestCost_8 : decode cX5_greatestCost 8 = .ok (.if_icmp .ge 38, 3) := by decide +kernel
theorem dX5_greatestCost_11 : decode cX5_greatestCost 11 = .ok (.aload_n 0, 1) := by decide +kernel
theorem dX5_greatestCost_12 : decode cX5_greatestCost 12 = .ok (.iload_n 2, 1) := by decide +kernel
theorem dX5_greatestCost_13 : decode cX5_greatestCost 13 = .ok (.iconst 0, 1) := by decide +kernel
theorem dX5_greatestCost_14 : decode cX5_greatestCost 14 = .ok (.invokevirtual 61, 3) := by decide +kernel
theorem dX5_greatestCost_17 : decode cX5_greatestCost 17 = .ok (.iconst 1, 1) := by decide +kernel
theorem dX5_greatestCost_18 : decode cX5_greatestCost 18 = .ok (.if_icmp .ne 20, 3) := by decide +kernel
theorem dX5_greatestCost_21 : decode cX5_greatestCost 21 = .ok (.aload_n 0, 1) := by decide +kernel
theorem dX5_greatestCost_22 : decode cX5_greatestCost 22 = .ok (.iload_n 2, 1) := by decide +kernel
theorem dX5_greatestCost_23 : decode cX5_greatestCost 23 = .ok (.invokevirtual 170, 3) := by decide +kernel
theorem dX5_greatestCost_26 : decode cX5_greatestCost 26 = .ok (.iload_n 1, 1) := by decide +kernel
theorem dX5_greatestCost_27 : decode cX5_greatestCost 27 = .ok (.if_icmp .le 11, 3) := by decide +kernel
theorem dX5_greatestCost_30 : decode cX5_greatestCost 30 = .ok (.aload_n 0, 1) := by decide +kernel
theorem dX5_greatestCost_31 : decode cX5_greatestCost 31 = .ok (.iload_n 2, 1) := by decide +kernel
theorem dX5_greatestCost_32 : decode cX5_greatestCost 32 = .ok (.invokevirtual 170, 3) := by decide +kernel
theorem dX5_greatestCost_35 : decode cX5_greatestCost 35 = .ok (.goto 4, 3) := by decide +kernel
theorem dX5_greatestCost_38 : decode cX5_greatestCost 38 = .ok (.iload_n 1, 1) := by decide +kernel
theorem dX5_greatestCost_39 : decode cX5_greatestCost 39 = .ok (.istore_n 1, 1) := by decide +kernel
theorem dX5_greatestCost_40 : decode cX5_greatestCost 40 = .ok (.iinc 2 1, 3) := by decide +kernel
theorem dX5_greatestCost_43 : decode cX5_greatestCost 43 = .ok (.goto (-38), 3) := by decide +kernel
theorem dX5_greatestCost_46 : decode cX5_greatestCost 46 = .ok (.iload_n 1, 1) := by decide +kernel
theorem dX5_greatestCost_47 : decode cX5_greatestCost 47 = .ok (.ireturn, 1) := by decide +kernel
theorem dX5_allLetters_0 : decode cX5_allLetters 0 = .ok (.iconst 0, 1) := by decide +kernel
theorem dX5_allLetters_1 : decode cX5_allLetters 1 = .ok (.istore_n 1, 1) := by decide +kernel
theorem dX5_allLetters_2 : decode cX5_allLetters 2 = .ok (.iconst 0, 1) := by decide +kernel
theorem dX5_allLetters_3 : decode cX5_allLetters 3 = .ok (.istore_n 2, 1) := by decide +kernel
theorem dX5_allLetters_4 : decode cX5_allLetters 4 = .ok (.iload_n 2, 1) := by decide +kernel
theorem dX5_allLetters_5 : decode cX5_allLetters 5 = .ok (.bipush 30, 2) := by decide +kernel
theorem dX5_allLetters_7 : decode cX5_allLetters 7 = .ok (.if_icmp .ge 18, 3) := by decide +kernel
theorem dX5_allLetters_10 : decode cX5_allLetters 10 = .ok (.iload_n 1, 1) := by decide +kernel
theorem dX5_allLetters_11 : decode cX5_allLetters 11 = .ok (.aload_n 0, 1) := by decide +kernel
theorem dX5_allLetters_12 : decode cX5_allLetters 12 = .ok (.iload_n 2, 1) := by decide +kernel
theorem dX5_allLetters_13 : decode cX5_allLetters 13 = .ok (.iconst 2, 1) := by decide +kernel
theorem dX5_allLetters_14 : decode cX5_allLetters 14 = .ok (.invokevirtual 61, 3) := by decide +kernel
theorem dX5_allLetters_17 : decode cX5_allLetters 17 = .ok (.iadd, 1) := by decide +kernel
theorem dX5_allLetters_18 : decode cX5_allLetters 18 = .ok (.istore_n 1, 1) := by decide +kernel
theorem dX5_allLetters_19 : decode cX5_allLetters 19 = .ok (.iinc 2 1, 3) := by decide +kernel
theorem dX5_allLetters_22 : decode cX5_allLetters 22 = .ok (.goto (-18), 3) := by decide +kernel
theorem dX5_allLetters_25 : decode cX5_allLetters 25 = .ok (.iload_n 1, 1) := by decide +kernel
theorem dX5_allLetters_26 : decode cX5_allLetters 26 = .ok (.ireturn, 1) := by decide +kernel
theorem dX5_count_0 : decode cX5_count 0 = .ok (.iload_n 1, 1) := by decide +kernel
theorem dX5_count_1 : decode cX5_count 1 = .ok (.tableswitch 127 0 11 #[63, 70, 75, 81, 87, 92, 97, 102, 107, 107, 117, 122], 63) := by decide +kernel
theorem dX5_count_64 : decode cX5_count 64 = .ok (.aload_n 0, 1) := by decide +kernel
theorem dX5_count_65 : decode cX5_count 65 = .ok (.getfield 7, 3) := by decide +kernel
theorem dX5_count_68 : decode cX5_count 68 = .ok (.iconst 2, 1) := by decide +kernel
theorem dX5_count_69 : decode cX5_count 69 = .ok (.iaload, 1) := by decide +kernel
theorem dX5_count_70 : decode cX5_count 70 = .ok (.ireturn, 1) := by decide +kernel
theorem dX5_count_71 : decode cX5_count 71 = .ok (.aload_n 0, 1) := by decide +kernel
theorem dX5_count_72 : decode cX5_count 72 = .ok (.invokevirtual 167, 3) := by decide +kernel
theorem dX5_count_75 : decode cX5_count 75 = .ok (.ireturn, 1) := by decide +kernel
theorem dX5_count_76 : decode cX5_count 76 = .ok (.aload_n 0, 1) := by decide +kernel
theorem dX5_count_77 : decode cX5_count 77 = .ok (.iconst 3, 1) := by decide +kernel
theorem dX5_count_78 : decode cX5_count 78 = .ok (.invokevirtual 176, 3) := by decide +kernel
theorem dX5_count_81 : decode cX5_count 81 = .ok (.ireturn, 1) := by decide +kernel
theorem dX5_count_82 : decode cX5_count 82 = .ok (.aload_n 0, 1) := by decide +kernel
theorem dX5_count_83 : decode cX5_count 83 = .ok (.iconst 2, 1) := by decide +kernel
theorem dX5_count_84 : decode cX5_count 84 = .ok (.invokevirtual 176, 3) := by decide +kernel
theorem dX5_count_87 : decode cX5_count 87 = .ok (.ireturn, 1) := by decide +kernel
theorem dX5_count_88 : decode cX5_count 88 = .ok (.aload_n 0, 1) := by decide +kernel
theorem dX5_count_89 : decode cX5_count 89 = .ok (.invokevirtual 179, 3) := by decide +kernel
theorem dX5_count_92 : decode cX5_count 92 = .ok (.ireturn, 1) := by decide +kernel
theorem dX5_count_93 : decode cX5_count 93 = .ok (.aload_n 0, 1) := by decide +kernel
theorem dX5_count_94 : decode cX5_count 94 = .ok (.invokevirtual 182, 3) := by decide +kernel
theorem dX5_count_97 : decode cX5_count 97 = .ok (.ireturn, 1) := by decide +kernel
theorem dX5_count_98 : decode cX5_count 98 = .ok (.aload_n 0, 1) := by decide +kernel
theorem dX5_count_99 : decode cX5_count 99 = .ok (.invokevirtual 185, 3) := by decide +kernel
theorem dX5_count_102 : decode cX5_count 102 = .ok (.ireturn, 1) := by decide +kernel
theorem dX5_count_103 : decode cX5_count 103 = .ok (.aload_n 0, 1) := by decide +kernel
theorem dX5_count_104 : decode cX5_count 104 = .ok (.invokevirtual 188, 3) := by decide +kernel
theorem dX5_count_107 : decode cX5_count 107 = .ok (.ireturn, 1) := by decide +kernel
theorem dX5_count_108 : decode cX5_count 108 = .ok (.aload_n 0, 1) := by decide +kernel
theorem dX5_count_109 : decode cX5_count 109 = .ok (.getfield 7, 3) := by decide +kernel
theorem dX5_count_112 : decode cX5_count 112 = .ok (.iload_n 1, 1) := by decide +kernel
theorem dX5_count_113 : decode cX5_count 113 = .ok (.bipush 8, 2) := by decide +kernel
theorem dX5_count_115 : decode cX5_count 115 = .ok (.isub, 1) := by decide +kernel
theorem dX5_count_116 : decode cX5_count 116 = .ok (.iaload, 1) := by decide +kernel
theorem dX5_count_117 : decode cX5_count 117 = .ok (.ireturn, 1) := by decide +kernel
theorem dX5_count_118 : decode cX5_count 118 = .ok (.aload_n 0, 1) := by decide +kernel
theorem dX5_count_119 : decode cX5_count 119 = .ok (.getfield 145, 3) := by decide +kernel
theorem dX5_count_122 : decode cX5_count 122 = .ok (.ireturn, 1) := by decide +kernel
theorem dX5_count_123 : decode cX5_count 123 = .ok (.aload_n 0, 1) := by decide +kernel
theorem dX5_count_124 : decode cX5_count 124 = .ok (.getfield 37, 3) := by decide +kernel
theorem dX5_count_127 : decode cX5_count 127 = .ok (.ireturn, 1) := by decide +kernel
theorem dX5_count_128 : decode cX5_count 128 = .ok (.bipush (-2), 2) := by decide +kernel
theorem dX5_count_130 : decode cX5_count 130 = .ok (.ireturn, 1) := by decide +kernel
theorem dX5_key_0 : decode cX5_key 0 = .ok (.iload_n 1, 1) := by decide +kernel
theorem dX5_key_1 : decode cX5_key 1 = .ok (.iconst 0, 1) := by decide +kernel
theorem dX5_key_2 : decode cX5_key 2 = .ok (.aload_n 0, 1) := by decide +kernel
theorem dX5_key_3 : decode cX5_key 3 = .ok (.getfield 7, 3) := by decide +kernel
theorem dX5_key_6 : decode cX5_key 6 = .ok (.iconst 2, 1) := by decide +kernel
theorem dX5_key_7 : decode cX5_key 7 = .ok (.iaload, 1) := by decide +kernel
theorem dX5_key_8 : decode cX5_key 8 = .ok (.iconst 1, 1) := by decide +kernel
theorem dX5_key_9 : decode cX5_key 9 = .ok (.isub, 1) := by decide +kernel
theorem dX5_key_10 : decode cX5_key 10 = .ok (.invokestatic 130, 3) := by decide +kernel
theorem dX5_key_13 : decode cX5_key 13 = .ok (.ifCond .eq 11, 3) := by decide +kernel
theorem dX5_key_16 : decode cX5_key 16 = .ok (.aload_n 0, 1) := by decide +kernel
theorem dX5_key_17 : decode cX5_key 17 = .ok (.iload_n 1, 1) := by decide +kernel
theorem dX5_key_18 : decode cX5_key 18 = .ok (.invokevirtual 157, 3) := by decide +kernel
theorem dX5_key_21 : decode cX5_key 21 = .ok (.goto 4, 3) := by decide +kernel
theorem dX5_key_24 : decode cX5_key 24 = .ok (.iconst (-1), 1) := by decide +kernel
theorem dX5_key_25 : decode cX5_key 25 = .ok (.ireturn, 1) := by decide +kernel
theorem dX5_packedWith_0 : decode cX5_packedWith 0 = .ok (.aload_n 0, 1) := by decide +kernel
theorem dX5_packedWith_1 : decode cX5_packedWith 1 = .ok (.getfield 7, 3) := by decide +kernel
theorem dX5_packedWith_4 : decode cX5_packedWith 4 = .ok (.iconst 0, 1) := by decide +kernel
theorem dX5_packedWith_5 : decode cX5_packedWith 5 = .ok (.aload_n 0, 1) := by decide +kernel
theorem dX5_packedWith_6 : decode cX5_packedWith 6 = .ok (.getfield 13, 3) := by decide +kernel
theorem dX5_packedWith_9 : decode cX5_packedWith 9 = .ok (.iconst 0, 1) := by decide +kernel
theorem dX5_packedWith_10 : decode cX5_packedWith 10 = .ok (.invokestatic 41, 3) := by decide +kernel
theorem dX5_packedWith_13 : decode cX5_packedWith 13 = .ok (.aload_n 0, 1) := by decide +kernel
theorem dX5_packedWith_14 : decode cX5_packedWith 14 = .ok (.getfield 7, 3) := by decide +kernel
theorem dX5_packedWith_17 : decode cX5_packedWith 17 = .ok (.iconst 0, 1) := by decide +kernel
theorem dX5_packedWith_18 : decode cX5_packedWith 18 = .ok (.iload_n 1, 1) := by decide +kernel
theorem dX5_packedWith_19 : decode cX5_packedWith 19 = .ok (.iastore, 1) := by decide +kernel
theorem dX5_packedWith_20 : decode cX5_packedWith 20 = .ok (.aload_n 0, 1) := by decide +kernel
theorem dX5_packedWith_21 : decode cX5_packedWith 21 = .ok (.invokevirtual 163, 3) := by decide +kernel
theorem dX5_packedWith_24 : decode cX5_packedWith 24 = .ok (.ifCond .ne 8, 3) := by decide +kernel
theorem dX5_packedWith_27 : decode cX5_packedWith 27 = .ok (.bipush (-5), 2) := by decide +kernel
theorem dX5_packedWith_29 : decode cX5_packedWith 29 = .ok (.goto 31, 3) := by decide +kernel
theorem dX5_packedWith_32 : decode cX5_packedWith 32 = .ok (.iload_n 2, 1) := by decide +kernel
theorem dX5_packedWith_33 : decode cX5_packedWith 33 = .ok (.ifCond .ne 10, 3) := by decide +kernel
theorem dX5_packedWith_36 : decode cX5_packedWith 36 = .ok (.aload_n 0, 1) := by decide +kernel
theorem dX5_packedWith_37 : decode cX5_packedWith 37 = .ok (.invokevirtual 182, 3) := by decide +kernel
theorem dX5_packedWith_40 : decode cX5_packedWith 40 = .ok (.goto 20, 3) := by decide +kernel
theorem dX5_packedWith_43 : decode cX5_packedWith 43 = .ok (.iload_n 2, 1) := by decide +kernel
theorem dX5_packedWith_44 : decode cX5_packedWith 44 = .ok (.iconst 1, 1) := by decide +kernel
theorem dX5_packedWith_45 : decode cX5_packedWith 45 = .ok (.if_icmp .ne 10, 3) := by decide +kernel
theorem dX5_packedWith_48 : decode cX5_packedWith 48 = .ok (.aload_n 0, 1) := by decide +kernel
theorem dX5_packedWith_49 : decode cX5_packedWith 49 = .ok (.invokevirtual 167, 3) := by decide +kernel
theorem dX5_packedWith_52 : decode cX5_packedWith 52 = .ok (.goto 8, 3) := by decide +kernel
theorem dX5_packedWith_55 : decode cX5_packedWith 55 = .ok (.aload_n 0, 1) := by decide +kernel
theorem dX5_packedWith_56 : decode cX5_packedWith 56 = .ok (.iconst 2, 1) := by decide +kernel
theorem dX5_packedWith_57 : decode cX5_packedWith 57 = .ok (.invokevirtual 176, 3) := by decide +kernel
theorem dX5_packedWith_60 : decode cX5_packedWith 60 = .ok (.istore_n 3, 1) := by decide +kernel
theorem dX5_packedWith_61 : decode cX5_packedWith 61 = .ok (.aload_n 0, 1) := by decide +kernel
theorem dX5_packedWith_62 : decode cX5_packedWith 62 = .ok (.getfield 13, 3) := by decide +kernel
theorem dX5_packedWith_65 : decode cX5_packedWith 65 = .ok (.iconst 0, 1) := by decide +kernel
theorem dX5_packedWith_66 : decode cX5_packedWith 66 = .ok (.aload_n 0, 1) := by decide +kernel
theorem dX5_packedWith_67 : decode cX5_packedWith 67 = .ok (.getfield 7, 3) := by decide +kernel
theorem dX5_packedWith_70 : decode cX5_packedWith 70 = .ok (.iconst 0, 1) := by decide +kernel
theorem dX5_packedWith_71 : decode cX5_packedWith 71 = .ok (.invokestatic 41, 3) := by decide +kernel
theorem dX5_packedWith_74 : decode cX5_packedWith 74 = .ok (.iload_n 3, 1) := by decide +kernel
theorem dX5_packedWith_75 : decode cX5_packedWith 75 = .ok (.ireturn, 1) := by decide +kernel
theorem dX5_ifPacked_0 : decode cX5_ifPacked 0 = .ok (.iload_n 1, 1) := by decide +kernel
theorem dX5_ifPacked_1 : decode cX5_ifPacked 1 = .ok (.iconst 0, 1) := by decide +kernel
theorem dX5_ifPacked_2 : decode cX5_ifPacked 2 = .ok (.bipush 16, 2) := by decide +kernel
theorem dX5_ifPacked_4 : decode cX5_ifPacked 4 = .ok (.invokestatic 130, 3) := by decide +kernel
theorem dX5_ifPacked_7 : decode cX5_ifPacked 7 = .ok (.ifCond .eq 21, 3) := by decide +kernel
theorem dX5_ifPacked_10 : decode cX5_ifPacked 10 = .ok (.iload_n 2, 1) := by decide +kernel
theorem dX5_ifPacked_11 : decode cX5_ifPacked 11 = .ok (.iconst 0, 1) := by decide +kernel
theorem dX5_ifPacked_12 : decode cX5_ifPacked 12 = .ok (.iconst 2, 1) := by decide +kernel
theorem dX5_ifPacked_13 : decode cX5_ifPacked 13 = .ok (.invokestatic 130, 3) := by decide +kernel
theorem dX5_ifPacked_16 : decode cX5_ifPacked 16 = .ok (.ifCond .eq 12, 3) := by decide +kernel
theorem dX5_ifPacked_19 : decode cX5_ifPacked 19 = .ok (.aload_n 0, 1) := by decide +kernel
theorem dX5_ifPacked_20 : decode cX5_ifPacked 20 = .ok (.iload_n 1, 1) := by decide +kernel
theorem dX5_ifPacked_21 : decode cX5_ifPacked 21 = .ok (.iload_n 2, 1) := by decide +kernel
theorem dX5_ifPacked_22 : decode cX5_ifPacked 22 = .ok (.invokevirtual 191, 3) := by decide +kernel
theorem dX5_ifPacked_25 : decode cX5_ifPacked 25 = .ok (.goto 5, 3) := by decide +kernel
theorem dX5_ifPacked_28 : decode cX5_ifPacked 28 = .ok (.bipush (-2), 2) := by decide +kernel
theorem dX5_ifPacked_30 : decode cX5_ifPacked 30 = .ok (.ireturn, 1) := by decide +kernel
theorem dX5_bestHead_0 : decode cX5_bestHead 0 = .ok (.bipush (-6), 2) := by decide +kernel
theorem dX5_bestHead_2 : decode cX5_bestHead 2 = .ok (.istore_n 1, 1) := by decide +kernel
theorem dX5_bestHead_3 : decode cX5_bestHead 3 = .ok (.iconst 0, 1) := by decide +kernel
theorem dX5_bestHead_4 : decode cX5_bestHead 4 = .ok (.istore_n 2, 1) := by decide +kernel
theorem dX5_bestHead_5 : decode cX5_bestHead 5 = .ok (.iconst 0, 1) := by decide +kernel
theorem dX5_bestHead_6 : decode cX5_bestHead 6 = .ok (.istore_n 3, 1) := by decide +kernel
theorem dX5_bestHead_7 : decode cX5_bestHead 7 = .ok (.iload_n 3, 1) := by decide +kernel
theorem dX5_bestHead_8 : decode cX5_bestHead 8 = .ok (.bipush 16, 2) := by decide +kernel
theorem dX5_bestHead_10 : decode cX5_bestHead 10 = .ok (.if_icmp .gt 75, 3) := by decide +kernel
theorem dX5_bestHead_13 : decode cX5_bestHead 13 = .ok (.aload_n 0, 1) := by decide +kernel
theorem dX5_bestHead_14 : decode cX5_bestHead 14 = .ok (.getfield 7, 3) := by decide +kernel
theorem dX5_bestHead_17 : decode cX5_bestHead 17 = .ok (.iconst 2, 1) := by decide +kernel
theorem dX5_bestHead_18 : decode cX5_bestHead 18 = .ok (.iaload, 1) := by decide +kernel
theorem dX5_bestHead_19 : decode cX5_bestHead 19 = .ok (.ifCond .le 66, 3) := by decide +kernel
theorem dX5_bestHead_22 : decode cX5_bestHead 22 = .ok (.aload_n 0, 1) := by decide +kernel
theorem dX5_bestHead_23 : decode cX5_bestHead 23 = .ok (.iload_n 3, 1) := by decide +kernel
theorem dX5_bestHead_24 : decode cX5_bestHead 24 = .ok (.iconst 0, 1) := by decide +kernel
theorem dX5_bestHead_25 : decode cX5_bestHead 25 = .ok (.invokevirtual 191, 3) := by decide +kernel
theorem dX5_bestHead_28 : decode cX5_bestHead 28 = .ok (.istore 4, 2) := by decide +kernel
theorem dX5_bestHead_30 : decode cX5_bestHead 30 = .ok (.iload 4, 2) := by decide +kernel
theorem dX5_bestHead_32 : decode cX5_bestHead 32 = .ok (.bipush (-5), 2) := by decide +kernel
theorem dX5_bestHead_34 : decode cX5_bestHead 34 = .ok (.if_icmp .eq 19, 3) := by decide +kernel
theorem dX5_bestHead_37 : decode cX5_bestHead 37 = .ok (.iload_n 1, 1) := by decide +kernel
theorem dX5_bestHead_38 : decode cX5_bestHead 38 = .ok (.bipush (-6), 2) := by decide +kernel
theorem dX5_bestHead_40 : decode cX5_bestHead 40 = .ok (.if_icmp .eq 9, 3) := by decide +kernel
theorem dX5_bestHead_43 : decode cX5_bestHead 43 = .ok (.iload 4, 2) := by decide +kernel
theorem dX5_bestHead_45 : decode cX5_bestHead 45 = .ok (.iload_n 2, 1) := by decide +kernel
theorem dX5_bestHead_46 : decode cX5_bestHead 46 = .ok (.if_icmp .ge 7, 3) := by decide +kernel
theorem dX5_bestHead_49 : decode cX5_bestHead 49 = .ok (.iconst 1, 1) := by decide +kernel
theorem dX5_bestHead_50 : decode cX5_bestHead 50 = .ok (.goto 4, 3) := by decide +kernel
theorem dX5_bestHead_53 : decode cX5_bestHead 53 = .ok (.iconst 0, 1) := by decide +kernel
theorem dX5_bestHead_54 : decode cX5_bestHead 54 = .ok (.istore 5, 2) := by decide +kernel
theorem dX5_bestHead_56 : decode cX5_bestHead 56 = .ok (.iload 5, 2) := by decide +kernel
theorem dX5_bestHead_58 : decode cX5_bestHead 58 = .ok (.ifCond .eq 7, 3) := by decide +kernel
theorem dX5_bestHead_61 : decode cX5_bestHead 61 = .ok (.iload_n 3, 1) := by decide +kernel
theorem dX5_bestHead_62 : decode cX5_bestHead 62 = .ok (.goto 4, 3) := by decide +kernel
theorem dX5_bestHead_65 : decode cX5_bestHead 65 = .ok (.iload_n 1, 1) := by decide +kernel
theorem dX5_bestHead_66 : decode cX5_bestHead 66 = .ok (.istore_n 1, 1) := by decide +kernel
theorem dX5_bestHead_67 : decode cX5_bestHead 67 = .ok (.iload 5, 2) := by decide +kernel
theorem dX5_bestHead_69 : decode cX5_bestHead 69 = .ok (.ifCond .eq 8, 3) := by decide +kernel
theorem dX5_bestHead_72 : decode cX5_bestHead 72 = .ok (.iload 4, 2) := by decide +kernel
theorem dX5_bestHead_74 : decode cX5_bestHead 74 = .ok (.goto 4, 3) := by decide +kernel
theorem dX5_bestHead_77 : decode cX5_bestHead 77 = .ok (.iload_n 2, 1) := by decide +kernel
theorem dX5_bestHead_78 : decode cX5_bestHead 78 = .ok (.istore_n 2, 1) := by decide +kernel
theorem dX5_bestHead_79 : decode cX5_bestHead 79 = .ok (.iinc 3 2, 3) := by decide +kernel
theorem dX5_bestHead_82 : decode cX5_bestHead 82 = .ok (.goto (-75), 3) := by decide +kernel
theorem dX5_bestHead_85 : decode cX5_bestHead 85 = .ok (.iload_n 1, 1) := by decide +kernel
theorem dX5_bestHead_86 : decode cX5_bestHead 86 = .ok (.ireturn, 1) := by decide +kernel
theorem dX5_most_0 : decode cX5_most 0 = .ok (.iload_n 1, 1) := by decide +kernel
theorem dX5_most_1 : decode cX5_most 1 = .ok (.iconst 0, 1) := by decide +kernel
theorem dX5_most_2 : decode cX5_most 2 = .ok (.bipush 99, 2) := by decide +kernel
theorem dX5_most_4 : decode cX5_most 4 = .ok (.invokestatic 130, 3) := by decide +kernel
theorem dX5_most_7 : decode cX5_most 7 = .ok (.ifCond .ne 6, 3) := by decide +kernel
theorem dX5_most_10 : decode cX5_most 10 = .ok (.bipush (-2), 2) := by decide +kernel
theorem dX5_most_12 : decode cX5_most 12 = .ok (.ireturn, 1) := by decide +kernel
theorem dX5_most_13 : decode cX5_most 13 = .ok (.bipush 40, 2) := by decide +kernel
theorem dX5_most_15 : decode cX5_most 15 = .ok (.istore_n 2, 1) := by decide +kernel
theorem dX5_most_16 : decode cX5_most 16 = .ok (.iload_n 2, 1) := by decide +kernel
theorem dX5_most_17 : decode cX5_most 17 = .ok (.ifCond .lt 52, 3) := by decide +kernel
theorem dX5_most_20 : decode cX5_most 20 = .ok (.aload_n 0, 1) := by decide +kernel
theorem dX5_most_21 : decode cX5_most 21 = .ok (.getfield 7, 3) := by decide +kernel
theorem dX5_most_24 : decode cX5_most 24 = .ok (.iconst 0, 1) := by decide +kernel
theorem dX5_most_25 : decode cX5_most 25 = .ok (.aload_n 0, 1) := by decide +kernel
theorem dX5_most_26 : decode cX5_most 26 = .ok (.getfield 13, 3) := by decide +kernel
theorem dX5_most_29 : decode cX5_most 29 = .ok (.iconst 0, 1) := by decide +kernel
theorem dX5_most_30 : decode cX5_most 30 = .ok (.invokestatic 41, 3) := by decide +kernel
theorem dX5_most_33 : decode cX5_most 33 = .ok (.aload_n 0, 1) := by decide +kernel
theorem dX5_most_34 : decode cX5_most 34 = .ok (.iload_n 2, 1) := by decide +kernel
theorem dX5_most_35 : decode cX5_most 35 = .ok (.putfield 85, 3) := by decide +kernel
theorem dX5_most_38 : decode cX5_most 38 = .ok (.aload_n 0, 1) := by decide +kernel
theorem dX5_most_39 : decode cX5_most 39 = .ok (.iload_n 1, 1) := by decide +kernel
theorem dX5_most_40 : decode cX5_most 40 = .ok (.invokevirtual 148, 3) := by decide +kernel
theorem dX5_most_43 : decode cX5_most 43 = .ok (.istore_n 3, 1) := by decide +kernel
theorem dX5_most_44 : decode cX5_most 44 = .ok (.aload_n 0, 1) := by decide +kernel
theorem dX5_most_45 : decode cX5_most 45 = .ok (.getfield 13, 3) := by decide +kernel
theorem dX5_most_48 : decode cX5_most 48 = .ok (.iconst 0, 1) := by decide +kernel
theorem dX5_most_49 : decode cX5_most 49 = .ok (.aload_n 0, 1) := by decide +kernel
theorem dX5_most_50 : decode cX5_most 50 = .ok (.getfield 7, 3) := by decide +kernel
theorem dX5_most_53 : decode cX5_most 53 = .ok (.iconst 0, 1) := by decide +kernel
theorem dX5_most_54 : decode cX5_most 54 = .ok (.invokestatic 41, 3) := by decide +kernel
theorem dX5_most_57 : decode cX5_most 57 = .ok (.iload_n 3, 1) := by decide +kernel
theorem dX5_most_58 : decode cX5_most 58 = .ok (.ifCond .eq 5, 3) := by decide +kernel
theorem dX5_most_61 : decode cX5_most 61 = .ok (.iload_n 2, 1) := by decide +kernel
theorem dX5_most_62 : decode cX5_most 62 = .ok (.ireturn, 1) := by decide +kernel
theorem dX5_most_63 : decode cX5_most 63 = .ok (.iinc 2 (-1), 3) := by decide +kernel
theorem dX5_most_66 : decode cX5_most 66 = .ok (.goto (-50), 3) := by decide +kernel
theorem dX5_most_69 : decode cX5_most 69 = .ok (.bipush (-6), 2) := by decide +kernel
theorem dX5_most_71 : decode cX5_most 71 = .ok (.ireturn, 1) := by decide +kernel
theorem dX5_put_0 : decode cX5_put 0 = .ok (.iconst 0, 1) := by decide +kernel
theorem dX5_put_1 : decode cX5_put 1 = .ok (.istore_n 3, 1) := by decide +kernel
theorem dX5_put_2 : decode cX5_put 2 = .ok (.lload_n 1, 1) := by decide +kernel
theorem dX5_put_3 : decode cX5_put 3 = .ok (.lstore 4, 2) := by decide +kernel
theorem dX5_put_5 : decode cX5_put 5 = .ok (.iconst 1, 1) := by decide +kernel
theorem dX5_put_6 : decode cX5_put 6 = .ok (.istore 6, 2) := by decide +kernel
theorem dX5_put_8 : decode cX5_put 8 = .ok (.iload_n 3, 1) := by decide +kernel
theorem dX5_put_9 : decode cX5_put 9 = .ok (.bipush 8, 2) := by decide +kernel
theorem dX5_put_11 : decode cX5_put 11 = .ok (.if_icmp .ge 56, 3) := by decide +kernel
theorem dX5_put_14 : decode cX5_put 14 = .ok (.lload 4, 2) := by decide +kernel
theorem dX5_put_16 : decode cX5_put 16 = .ok (.ldc2_w 194, 3) := by decide +kernel
theorem dX5_put_19 : decode cX5_put 19 = .ok (.land, 1) := by decide +kernel
theorem dX5_put_20 : decode cX5_put 20 = .ok (.lconst 0, 1) := by decide +kernel
theorem dX5_put_21 : decode cX5_put 21 = .ok (.lcmp, 1) := by decide +kernel
theorem dX5_put_22 : decode cX5_put 22 = .ok (.ifCond .eq 45, 3) := by decide +kernel
theorem dX5_put_25 : decode cX5_put 25 = .ok (.iload 6, 2) := by decide +kernel
theorem dX5_put_27 : decode cX5_put 27 = .ok (.ifCond .eq 24, 3) := by decide +kernel
theorem dX5_put_30 : decode cX5_put 30 = .ok (.lload 4, 2) := by decide +kernel
theorem dX5_put_32 : decode cX5_put 32 = .ok (.ldc2_w 194, 3) := by decide +kernel
theorem dX5_put_35 : decode cX5_put 35 = .ok (.land, 1) := by decide +kernel
theorem dX5_put_36 : decode cX5_put 36 = .ok (.l2i, 1) := by decide +kernel
theorem dX5_put_37 : decode cX5_put 37 = .ok (.bipush 33, 2) := by decide +kernel
theorem dX5_put_39 : decode cX5_put 39 = .ok (.bipush 126, 2) := by decide +kernel
theorem dX5_put_41 : decode cX5_put 41 = .ok (.invokestatic 130, 3) := by decide +kernel
theorem dX5_put_44 : decode cX5_put 44 = .ok (.ifCond .eq 7, 3) := by decide +kernel
theorem dX5_put_47 : decode cX5_put 47 = .ok (.iconst 1, 1) := by decide +kernel
theorem dX5_put_48 : decode cX5_put 48 = .ok (.goto 4, 3) := by decide +kernel
theorem dX5_put_51 : decode cX5_put 51 = .ok (.iconst 0, 1) := by decide +kernel
theorem dX5_put_52 : decode cX5_put 52 = .ok (.istore 6, 2) := by decide +kernel
theorem dX5_put_54 : decode cX5_put 54 = .ok (.lload 4, 2) := by decide +kernel
theorem dX5_put_56 : decode cX5_put 56 = .ok (.bipush 8, 2) := by decide +kernel
theorem dX5_put_58 : decode cX5_put 58 = .ok (.lushr, 1) := by decide +kernel
theorem dX5_put_59 : decode cX5_put 59 = .ok (.lstore 4, 2) := by decide +kernel
theorem dX5_put_61 : decode cX5_put 61 = .ok (.iinc 3 1, 3) := by decide +kernel
theorem dX5_put_64 : decode cX5_put 64 = .ok (.goto (-56), 3) := by decide +kernel
theorem dX5_put_67 : decode cX5_put 67 = .ok (.iload_n 3, 1) := by decide +kernel
theorem dX5_put_68 : decode cX5_put 68 = .ok (.ifCond .eq 15, 3) := by decide +kernel
theorem dX5_put_71 : decode cX5_put 71 = .ok (.iload 6, 2) := by decide +kernel
theorem dX5_put_73 : decode cX5_put 73 = .ok (.ifCond .eq 10, 3) := by decide +kernel
theorem dX5_put_76 : decode cX5_put 76 = .ok (.lload 4, 2) := by decide +kernel
theorem dX5_put_78 : decode cX5_put 78 = .ok (.lconst 0, 1) := by decide +kernel
theorem dX5_put_79 : decode cX5_put 79 = .ok (.lcmp, 1) := by decide +kernel
theorem dX5_put_80 : decode cX5_put 80 = .ok (.ifCond .eq 6, 3) := by decide +kernel
theorem dX5_put_83 : decode cX5_put 83 = .ok (.bipush (-2), 2) := by decide +kernel
theorem dX5_put_85 : decode cX5_put 85 = .ok (.ireturn, 1) := by decide +kernel
theorem dX5_put_86 : decode cX5_put 86 = .ok (.aload_n 0, 1) := by decide +kernel
theorem dX5_put_87 : decode cX5_put 87 = .ok (.getfield 145, 3) := by decide +kernel
theorem dX5_put_90 : decode cX5_put 90 = .ok (.iload_n 3, 1) := by decide +kernel
theorem dX5_put_91 : decode cX5_put 91 = .ok (.iadd, 1) := by decide +kernel
theorem dX5_put_92 : decode cX5_put 92 = .ok (.bipush 80, 2) := by decide +kernel
theorem dX5_put_94 : decode cX5_put 94 = .ok (.if_icmp .le 6, 3) := by decide +kernel
theorem dX5_put_97 : decode cX5_put 97 = .ok (.bipush (-4), 2) := by decide +kernel
theorem dX5_put_99 : decode cX5_put 99 = .ok (.ireturn, 1) := by decide +kernel
theorem dX5_put_100 : decode cX5_put 100 = .ok (.iload_n 3, 1) := by decide +kernel
theorem dX5_put_101 : decode cX5_put 101 = .ok (.iconst 1, 1) := by decide +kernel
theorem dX5_put_102 : decode cX5_put 102 = .ok (.isub, 1) := by decide +kernel
theorem dX5_put_103 : decode cX5_put 103 = .ok (.istore 7, 2) := by decide +kernel
theorem dX5_put_105 : decode cX5_put 105 = .ok (.iload 7, 2) := by decide +kernel
theorem dX5_put_107 : decode cX5_put 107 = .ok (.ifCond .lt 40, 3) := by decide +kernel
theorem dX5_put_110 : decode cX5_put 110 = .ok (.aload_n 0, 1) := by decide +kernel
theorem dX5_put_111 : decode cX5_put 111 = .ok (.getfield 28, 3) := by decide +kernel
theorem dX5_put_114 : decode cX5_put 114 = .ok (.aload_n 0, 1) := by decide +kernel
theorem dX5_put_115 : decode cX5_put 115 = .ok (.getfield 145, 3) := by decide +kernel
theorem dX5_put_118 : decode cX5_put 118 = .ok (.lload_n 1, 1) := by decide +kernel
theorem dX5_put_119 : decode cX5_put 119 = .ok (.bipush 8, 2) := by decide +kernel
theorem dX5_put_121 : decode cX5_put 121 = .ok (.iload 7, 2) := by decide +kernel
theorem dX5_put_123 : decode cX5_put 123 = .ok (.imul, 1) := by decide +kernel
theorem dX5_put_124 : decode cX5_put 124 = .ok (.lushr, 1) := by decide +kernel
theorem dX5_put_125 : decode cX5_put 125 = .ok (.ldc2_w 194, 3) := by decide +kernel
theorem dX5_put_128 : decode cX5_put 128 = .ok (.land, 1) := by decide +kernel
theorem dX5_put_129 : decode cX5_put 129 = .ok (.l2i, 1) := by decide +kernel
theorem dX5_put_130 : decode cX5_put 130 = .ok (.iastore, 1) := by decide +kernel
theorem dX5_put_131 : decode cX5_put 131 = .ok (.aload_n 0, 1) := by decide +kernel
theorem dX5_put_132 : decode cX5_put 132 = .ok (.dup, 1) := by decide +kernel
theorem dX5_put_133 : decode cX5_put 133 = .ok (.getfield 145, 3) := by decide +kernel
theorem dX5_put_136 : decode cX5_put 136 = .ok (.iconst 1, 1) := by decide +kernel
theorem dX5_put_137 : decode cX5_put 137 = .ok (.iadd, 1) := by decide +kernel
theorem dX5_put_138 : decode cX5_put 138 = .ok (.putfield 145, 3) := by decide +kernel
theorem dX5_put_141 : decode cX5_put 141 = .ok (.iinc 7 (-1), 3) := by decide +kernel
theorem dX5_put_144 : decode cX5_put 144 = .ok (.goto (-39), 3) := by decide +kernel
theorem dX5_put_147 : decode cX5_put 147 = .ok (.aload_n 0, 1) := by decide +kernel
theorem dX5_put_148 : decode cX5_put 148 = .ok (.getfield 145, 3) := by decide +kernel
theorem dX5_put_151 : decode cX5_put 151 = .ok (.ireturn, 1) := by decide +kernel
theorem dX5_wipe_0 : decode cX5_wipe 0 = .ok (.aload_n 0, 1) := by decide +kernel
theorem dX5_wipe_1 : decode cX5_wipe 1 = .ok (.getfield 145, 3) := by decide +kernel
theorem dX5_wipe_4 : decode cX5_wipe 4 = .ok (.istore_n 1, 1) := by decide +kernel
theorem dX5_wipe_5 : decode cX5_wipe 5 = .ok (.aload_n 0, 1) := by decide +kernel
theorem dX5_wipe_6 : decode cX5_wipe 6 = .ok (.iconst 0, 1) := by decide +kernel
theorem dX5_wipe_7 : decode cX5_wipe 7 = .ok (.putfield 145, 3) := by decide +kernel
theorem dX5_wipe_10 : decode cX5_wipe 10 = .ok (.iload_n 1, 1) := by decide +kernel
theorem dX5_wipe_11 : decode cX5_wipe 11 = .ok (.ireturn, 1) := by decide +kernel
theorem dX5_findFault_0 : decode cX5_findFault 0 = .ok (.bipush (-6), 2) := by decide +kernel
theorem dX5_findFault_2 : decode cX5_findFault 2 = .ok (.istore_n 1, 1) := by decide +kernel
theorem dX5_findFault_3 : decode cX5_findFault 3 = .ok (.bipush (-6), 2) := by decide +kernel
theorem dX5_findFault_5 : decode cX5_findFault 5 = .ok (.istore_n 2, 1) := by decide +kernel
theorem dX5_findFault_6 : decode cX5_findFault 6 = .ok (.iconst 0, 1) := by decide +kernel
theorem dX5_findFault_7 : decode cX5_findFault 7 = .ok (.istore_n 3, 1) := by decide +kernel
theorem dX5_findFault_8 : decode cX5_findFault 8 = .ok (.iload_n 3, 1) := by decide +kernel
theorem dX5_findFault_9 : decode cX5_findFault 9 = .ok (.aload_n 0, 1) := by decide +kernel
theorem dX5_findFault_10 : decode cX5_findFault 10 = .ok (.getfield 145, 3) := by decide +kernel
theorem dX5_findFault_13 : decode cX5_findFault 13 = .ok (.if_icmp .ge 233, 3) := by decide +kernel
theorem dX5_findFault_16 : decode cX5_findFault 16 = .ok (.aload_n 0, 1) := by decide +kernel
theorem dX5_findFault_17 : decode cX5_findFault 17 = .ok (.getfield 28, 3) := by decide +kernel
theorem dX5_findFault_20 : decode cX5_findFault 20 = .ok (.iload_n 3, 1) := by decide +kernel
theorem dX5_findFault_21 : decode cX5_findFault 21 = .ok (.iaload, 1) := by decide +kernel
theorem dX5_findFault_22 : decode cX5_findFault 22 = .ok (.istore 4, 2) := by decide +kernel
theorem dX5_findFault_24 : decode cX5_findFault 24 = .ok (.iload 4, 2) := by decide +kernel
theorem dX5_findFault_26 : decode cX5_findFault 26 = .ok (.bipush 48, 2) := by decide +kernel
theorem dX5_findFault_28 : decode cX5_findFault 28 = .ok (.bipush 57, 2) := by decide +kernel
theorem dX5_findFault_30 : decode cX5_findFault 30 = .ok (.invokestatic 130, 3) := by decide +kernel
theorem dX5_findFault_33 : decode cX5_findFault 33 = .ok (.ifCond .eq 29, 3) := by decide +kernel
theorem dX5_findFault_36 : decode cX5_findFault 36 = .ok (.iload_n 2, 1) := by decide +kernel
theorem dX5_findFault_37 : decode cX5_findFault 37 = .ok (.bipush (-6), 2) := by decide +kernel
theorem dX5_findFault_39 : decode cX5_findFault 39 = .ok (.if_icmp .ne 23, 3) := by decide +kernel
theorem dX5_findFault_42 : decode cX5_findFault 42 = .ok (.iload_n 1, 1) := by decide +kernel
theorem dX5_findFault_43 : decode cX5_findFault 43 = .ok (.bipush (-6), 2) := by decide +kernel
theorem dX5_findFault_45 : decode cX5_findFault 45 = .ok (.if_icmp .eq 13, 3) := by decide +kernel
theorem dX5_findFault_48 : decode cX5_findFault 48 = .ok (.iload_n 1, 1) := by decide +kernel
theorem dX5_findFault_49 : decode cX5_findFault 49 = .ok (.ifCond .le 13, 3) := by decide +kernel
theorem dX5_findFault_52 : decode cX5_findFault 52 = .ok (.iload_n 1, 1) := by decide +kernel
theorem dX5_findFault_53 : decode cX5_findFault 53 = .ok (.bipush 10, 2) := by decide +kernel
theorem dX5_findFault_55 : decode cX5_findFault 55 = .ok (.if_icmp .ge 7, 3) := by decide +kernel
theorem dX5_findFault_58 : decode cX5_findFault 58 = .ok (.iconst 1, 1) := by decide +kernel
theorem dX5_findFault_59 : decode cX5_findFault 59 = .ok (.goto 4, 3) := by decide +kernel
theorem dX5_findFault_62 : decode cX5_findFault 62 = .ok (.iconst 0, 1) := by decide +kernel
theorem dX5_findFault_63 : decode cX5_findFault 63 = .ok (.istore 5, 2) := by decide +kernel
theorem dX5_findFault_65 : decode cX5_findFault 65 = .ok (.iload 4, 2) := by decide +kernel
theorem dX5_findFault_67 : decode cX5_findFault 67 = .ok (.bipush 61, 2) := by decide +kernel
theorem dX5_findFault_69 : decode cX5_findFault 69 = .ok (.if_icmp .ne 19, 3) := by decide +kernel
theorem dX5_findFault_72 : decode cX5_findFault 72 = .ok (.iload_n 2, 1) := by decide +kernel
theorem dX5_findFault_73 : decode cX5_findFault 73 = .ok (.bipush (-6), 2) := by decide +kernel
theorem dX5_findFault_75 : decode cX5_findFault 75 = .ok (.if_icmp .ne 13, 3) := by decide +kernel
theorem dX5_findFault_78 : decode cX5_findFault 78 = .ok (.iload_n 1, 1) := by decide +kernel
theorem dX5_findFault_79 : decode cX5_findFault 79 = .ok (.bipush (-6), 2) := by decide +kernel
theorem dX5_findFault_81 : decode cX5_findFault 81 = .ok (.if_icmp .eq 7, 3) := by decide +kernel
theorem dX5_findFault_84 : decode cX5_findFault 84 = .ok (.iconst 1, 1) := by decide +kernel
theorem dX5_findFault_85 : decode cX5_findFault 85 = .ok (.goto 4, 3) := by decide +kernel
theorem dX5_findFault_88 : decode cX5_findFault 88 = .ok (.iconst 0, 1) := by decide +kernel
theorem dX5_findFault_89 : decode cX5_findFault 89 = .ok (.istore 6, 2) := by decide +kernel
theorem dX5_findFault_91 : decode cX5_findFault 91 = .ok (.iload 4, 2) := by decide +kernel
theorem dX5_findFault_93 : decode cX5_findFault 93 = .ok (.bipush 97, 2) := by decide +kernel
theorem dX5_findFault_95 : decode cX5_findFault 95 = .ok (.bipush 122, 2) := by decide +kernel
theorem dX5_findFault_97 : decode cX5_findFault 97 = .ok (.invokestatic 130, 3) := by decide +kernel
theorem dX5_findFault_100 : decode cX5_findFault 100 = .ok (.ifCond .eq 19, 3) := by decide +kernel
theorem dX5_findFault_103 : decode cX5_findFault 103 = .ok (.iload_n 2, 1) := by decide +kernel
theorem dX5_findFault_104 : decode cX5_findFault 104 = .ok (.bipush (-6), 2) := by decide +kernel
theorem dX5_findFault_106 : decode cX5_findFault 106 = .ok (.if_icmp .eq 13, 3) := by decide +kernel
theorem dX5_findFault_109 : decode cX5_findFault 109 = .ok (.iload_n 2, 1) := by decide +kernel
theorem dX5_findFault_110 : decode cX5_findFault 110 = .ok (.bipush 40, 2) := by decide +kernel
theorem dX5_findFault_112 : decode cX5_findFault 112 = .ok (.if_icmp .ge 7, 3) := by decide +kernel
theorem dX5_findFault_115 : decode cX5_findFault 115 = .ok (.iconst 1, 1) := by decide +kernel
theorem dX5_findFault_116 : decode cX5_findFault 116 = .ok (.goto 4, 3) := by decide +kernel
theorem dX5_findFault_119 : decode cX5_findFault 119 = .ok (.iconst 0, 1) := by decide +kernel
theorem dX5_findFault_120 : decode cX5_findFault 120 = .ok (.istore 7, 2) := by decide +kernel
theorem dX5_findFault_122 : decode cX5_findFault 122 = .ok (.iload 4, 2) := by decide +kernel
theorem dX5_findFault_124 : decode cX5_findFault 124 = .ok (.bipush 59, 2) := by decide +kernel
theorem dX5_findFault_126 : decode cX5_findFault 126 = .ok (.if_icmp .ne 13, 3) := by decide +kernel
theorem dX5_findFault_129 : decode cX5_findFault 129 = .ok (.iload_n 2, 1) := by decide +kernel
theorem dX5_findFault_130 : decode cX5_findFault 130 = .ok (.bipush (-6), 2) := by decide +kernel
theorem dX5_findFault_132 : decode cX5_findFault 132 = .ok (.if_icmp .eq 7, 3) := by decide +kernel
theorem dX5_findFault_135 : decode cX5_findFault 135 = .ok (.iconst 1, 1) := by decide +kernel
theorem dX5_findFault_136 : decode cX5_findFault 136 = .ok (.goto 4, 3) := by decide +kernel
theorem dX5_findFault_139 : decode cX5_findFault 139 = .ok (.iconst 0, 1) := by decide +kernel
theorem dX5_findFault_140 : decode cX5_findFault 140 = .ok (.istore 8, 2) := by decide +kernel
theorem dX5_findFault_142 : decode cX5_findFault 142 = .ok (.iload 5, 2) := by decide +kernel
theorem dX5_findFault_144 : decode cX5_findFault 144 = .ok (.ifCond .ne 20, 3) := by decide +kernel
theorem dX5_findFault_147 : decode cX5_findFault 147 = .ok (.iload 6, 2) := by decide +kernel
theorem dX5_findFault_149 : decode cX5_findFault 149 = .ok (.ifCond .ne 15, 3) := by decide +kernel
theorem dX5_findFault_152 : decode cX5_findFault 152 = .ok (.iload 7, 2) := by decide +kernel
theorem dX5_findFault_154 : decode cX5_findFault 154 = .ok (.ifCond .ne 10, 3) := by decide +kernel
theorem dX5_findFault_157 : decode cX5_findFault 157 = .ok (.iload 8, 2) := by decide +kernel
theorem dX5_findFault_159 : decode cX5_findFault 159 = .ok (.ifCond .ne 5, 3) := by decide +kernel
theorem dX5_findFault_162 : decode cX5_findFault 162 = .ok (.iload_n 3, 1) := by decide +kernel
theorem dX5_findFault_163 : decode cX5_findFault 163 = .ok (.ireturn, 1) := by decide +kernel
theorem dX5_findFault_164 : decode cX5_findFault 164 = .ok (.iload 8, 2) := by decide +kernel
theorem dX5_findFault_166 : decode cX5_findFault 166 = .ok (.ifCond .eq 8, 3) := by decide +kernel
theorem dX5_findFault_169 : decode cX5_findFault 169 = .ok (.bipush (-6), 2) := by decide +kernel
theorem dX5_findFault_171 : decode cX5_findFault 171 = .ok (.goto 36, 3) := by decide +kernel
theorem dX5_findFault_174 : decode cX5_findFault 174 = .ok (.iload 5, 2) := by decide +kernel
theorem dX5_findFault_176 : decode cX5_findFault 176 = .ok (.ifCond .ne 7, 3) := by decide +kernel
theorem dX5_findFault_179 : decode cX5_findFault 179 = .ok (.iload_n 1, 1) := by decide +kernel
theorem dX5_findFault_180 : decode cX5_findFault 180 = .ok (.goto 27, 3) := by decide +kernel
theorem dX5_findFault_183 : decode cX5_findFault 183 = .ok (.iload_n 1, 1) := by decide +kernel
theorem dX5_findFault_184 : decode cX5_findFault 184 = .ok (.bipush (-6), 2) := by decide +kernel
theorem dX5_findFault_186 : decode cX5_findFault 186 = .ok (.if_icmp .ne 11, 3) := by decide +kernel
theorem dX5_findFault_189 : decode cX5_findFault 189 = .ok (.iload 4, 2) := by decide +kernel
theorem dX5_findFault_191 : decode cX5_findFault 191 = .ok (.bipush 48, 2) := by decide +kernel
theorem dX5_findFault_193 : decode cX5_findFault 193 = .ok (.isub, 1) := by decide +kernel
theorem dX5_findFault_194 : decode cX5_findFault 194 = .ok (.goto 13, 3) := by decide +kernel
theorem dX5_findFault_197 : decode cX5_findFault 197 = .ok (.bipush 10, 2) := by decide +kernel
theorem dX5_findFault_199 : decode cX5_findFault 199 = .ok (.iload_n 1, 1) := by decide +kernel
theorem dX5_findFault_200 : decode cX5_findFault 200 = .ok (.imul, 1) := by decide +kernel
theorem dX5_findFault_201 : decode cX5_findFault 201 = .ok (.iload 4, 2) := by decide +kernel
theorem dX5_findFault_203 : decode cX5_findFault 203 = .ok (.iadd, 1) := by decide +kernel
theorem dX5_findFault_204 : decode cX5_findFault 204 = .ok (.bipush 48, 2) := by decide +kernel
theorem dX5_findFault_206 : decode cX5_findFault 206 = .ok (.isub, 1) := by decide +kernel
theorem dX5_findFault_207 : decode cX5_findFault 207 = .ok (.istore_n 1, 1) := by decide +kernel
theorem dX5_findFault_208 : decode cX5_findFault 208 = .ok (.iload 8, 2) := by decide +kernel
theorem dX5_findFault_210 : decode cX5_findFault 210 = .ok (.ifCond .eq 8, 3) := by decide +kernel
theorem dX5_findFault_213 : decode cX5_findFault 213 = .ok (.bipush (-6), 2) := by decide +kernel
theorem dX5_findFault_215 : decode cX5_findFault 215 = .ok (.goto 24, 3) := by decide +kernel
theorem dX5_findFault_218 : decode cX5_findFault 218 = .ok (.iload 6, 2) := by decide +kernel
theorem dX5_findFault_220 : decode cX5_findFault 220 = .ok (.ifCond .eq 7, 3) := by decide +kernel
theorem dX5_findFault_223 : decode cX5_findFault 223 = .ok (.iconst 0, 1) := by decide +kernel
theorem dX5_findFault_224 : decode cX5_findFault 224 = .ok (.goto 15, 3) := by decide +kernel
theorem dX5_findFault_227 : decode cX5_findFault 227 = .ok (.iload 7, 2) := by decide +kernel
theorem dX5_findFault_229 : decode cX5_findFault 229 = .ok (.ifCond .eq 9, 3) := by decide +kernel
theorem dX5_findFault_232 : decode cX5_findFault 232 = .ok (.iload_n 2, 1) := by decide +kernel
theorem dX5_findFault_233 : decode cX5_findFault 233 = .ok (.iconst 1, 1) := by decide +kernel
theorem dX5_findFault_234 : decode cX5_findFault 234 = .ok (.iadd, 1) := by decide +kernel
theorem dX5_findFault_235 : decode cX5_findFault 235 = .ok (.goto 4, 3) := by decide +kernel
theorem dX5_findFault_238 : decode cX5_findFault 238 = .ok (.iload_n 2, 1) := by decide +kernel
theorem dX5_findFault_239 : decode cX5_findFault 239 = .ok (.istore_n 2, 1) := by decide +kernel
theorem dX5_findFault_240 : decode cX5_findFault 240 = .ok (.iinc 3 1, 3) := by decide +kernel
theorem dX5_findFault_243 : decode cX5_findFault 243 = .ok (.goto (-235), 3) := by decide +kernel
theorem dX5_findFault_246 : decode cX5_findFault 246 = .ok (.iload_n 2, 1) := by decide +kernel
theorem dX5_findFault_247 : decode cX5_findFault 247 = .ok (.bipush (-6), 2) := by decide +kernel
theorem dX5_findFault_249 : decode cX5_findFault 249 = .ok (.if_icmp .ne 10, 3) := by decide +kernel
theorem dX5_findFault_252 : decode cX5_findFault 252 = .ok (.aload_n 0, 1) := by decide +kernel
theorem dX5_findFault_253 : decode cX5_findFault 253 = .ok (.getfield 145, 3) := by decide +kernel
theorem dX5_findFault_256 : decode cX5_findFault 256 = .ok (.goto 5, 3) := by decide +kernel
theorem dX5_findFault_259 : decode cX5_findFault 259 = .ok (.bipush (-6), 2) := by decide +kernel
theorem dX5_findFault_261 : decode cX5_findFault 261 = .ok (.ireturn, 1) := by decide +kernel
theorem dX5_fault_0 : decode cX5_fault 0 = .ok (.aload_n 0, 1) := by decide +kernel
theorem dX5_fault_1 : decode cX5_fault 1 = .ok (.invokevirtual 142, 3) := by decide +kernel
theorem dX5_fault_4 : decode cX5_fault 4 = .ok (.ireturn, 1) := by decide +kernel
theorem dX5_undo_0 : decode cX5_undo 0 = .ok (.aload_n 0, 1) := by decide +kernel
theorem dX5_undo_1 : decode cX5_undo 1 = .ok (.getfield 37, 3) := by decide +kernel
theorem dX5_undo_4 : decode cX5_undo 4 = .ok (.ifCond .ne 6, 3) := by decide +kernel
theorem dX5_undo_7 : decode cX5_undo 7 = .ok (.bipush (-5), 2) := by decide +kernel
theorem dX5_undo_9 : decode cX5_undo 9 = .ok (.ireturn, 1) := by decide +kernel
theorem dX5_undo_10 : decode cX5_undo 10 = .ok (.aload_n 0, 1) := by decide +kernel
theorem dX5_undo_11 : decode cX5_undo 11 = .ok (.dup, 1) := by decide +kernel
theorem dX5_undo_12 : decode cX5_undo 12 = .ok (.getfield 37, 3) := by decide +kernel
theorem dX5_undo_15 : decode cX5_undo 15 = .ok (.iconst 1, 1) := by decide +kernel
theorem dX5_undo_16 : decode cX5_undo 16 = .ok (.isub, 1) := by decide +kernel
theorem dX5_undo_17 : decode cX5_undo 17 = .ok (.putfield 37, 3) := by decide +kernel
theorem dX5_undo_20 : decode cX5_undo 20 = .ok (.aload_n 0, 1) := by decide +kernel
theorem dX5_undo_21 : decode cX5_undo 21 = .ok (.getfield 19, 3) := by decide +kernel
theorem dX5_undo_24 : decode cX5_undo 24 = .ok (.aload_n 0, 1) := by decide +kernel
theorem dX5_undo_25 : decode cX5_undo 25 = .ok (.getfield 37, 3) := by decide +kernel
theorem dX5_undo_28 : decode cX5_undo 28 = .ok (.sipush 763, 3) := by decide +kernel
theorem dX5_undo_31 : decode cX5_undo 31 = .ok (.imul, 1) := by decide +kernel
theorem dX5_undo_32 : decode cX5_undo 32 = .ok (.aload_n 0, 1) := by decide +kernel
theorem dX5_undo_33 : decode cX5_undo 33 = .ok (.getfield 7, 3) := by decide +kernel
theorem dX5_undo_36 : decode cX5_undo 36 = .ok (.iconst 0, 1) := by decide +kernel
theorem dX5_undo_37 : decode cX5_undo 37 = .ok (.invokestatic 41, 3) := by decide +kernel
theorem dX5_undo_40 : decode cX5_undo 40 = .ok (.aload_n 0, 1) := by decide +kernel
theorem dX5_undo_41 : decode cX5_undo 41 = .ok (.getfield 37, 3) := by decide +kernel
theorem dX5_undo_44 : decode cX5_undo 44 = .ok (.ireturn, 1) := by decide +kernel
theorem dX5_save_0 : decode cX5_save 0 = .ok (.iload_n 1, 1) := by decide +kernel
theorem dX5_save_1 : decode cX5_save 1 = .ok (.iconst 0, 1) := by decide +kernel
theorem dX5_save_2 : decode cX5_save 2 = .ok (.iconst 1, 1) := by decide +kernel
theorem dX5_save_3 : decode cX5_save 3 = .ok (.invokestatic 130, 3) := by decide +kernel
theorem dX5_save_6 : decode cX5_save 6 = .ok (.ifCond .ne 6, 3) := by decide +kernel
theorem dX5_save_9 : decode cX5_save 9 = .ok (.bipush (-2), 2) := by decide +kernel
theorem dX5_save_11 : decode cX5_save 11 = .ok (.ireturn, 1) := by decide +kernel
theorem dX5_save_12 : decode cX5_save 12 = .ok (.aload_n 0, 1) := by decide +kernel
theorem dX5_save_13 : decode cX5_save 13 = .ok (.getfield 7, 3) := by decide +kernel
theorem dX5_save_16 : decode cX5_save 16 = .ok (.iconst 0, 1) := by decide +kernel
theorem dX5_save_17 : decode cX5_save 17 = .ok (.aload_n 0, 1) := by decide +kernel
theorem dX5_save_18 : decode cX5_save 18 = .ok (.getfield 22, 3) := by decide +kernel
theorem dX5_save_21 : decode cX5_save 21 = .ok (.sipush 763, 3) := by decide +kernel
theorem dX5_save_24 : decode cX5_save 24 = .ok (.iload_n 1, 1) := by decide +kernel
theorem dX5_save_25 : decode cX5_save 25 = .ok (.imul, 1) := by decide +kernel
theorem dX5_save_26 : decode cX5_save 26 = .ok (.invokestatic 41, 3) := by decide +kernel
theorem dX5_save_29 : decode cX5_save 29 = .ok (.aload_n 0, 1) := by decide +kernel
theorem dX5_save_30 : decode cX5_save 30 = .ok (.getfield 25, 3) := by decide +kernel
theorem dX5_save_33 : decode cX5_save 33 = .ok (.iload_n 1, 1) := by decide +kernel
theorem dX5_save_34 : decode cX5_save 34 = .ok (.iconst 1, 1) := by decide +kernel
theorem dX5_save_35 : decode cX5_save 35 = .ok (.iastore, 1) := by decide +kernel
theorem dX5_save_36 : decode cX5_save 36 = .ok (.aload_n 0, 1) := by decide +kernel
theorem dX5_save_37 : decode cX5_save 37 = .ok (.getfield 7, 3) := by decide +kernel
theorem dX5_save_40 : decode cX5_save 40 = .ok (.iconst 2, 1) := by decide +kernel
theorem dX5_save_41 : decode cX5_save 41 = .ok (.iaload, 1) := by decide +kernel
theorem dX5_save_42 : decode cX5_save 42 = .ok (.ireturn, 1) := by decide +kernel
theorem dX5_restore_0 : decode cX5_restore 0 = .ok (.iload_n 1, 1) := by decide +kernel
theorem dX5_restore_1 : decode cX5_restore 1 = .ok (.iconst 0, 1) := by decide +kernel
theorem dX5_restore_2 : decode cX5_restore 2 = .ok (.iconst 1, 1) := by decide +kernel
theorem dX5_restore_3 : decode cX5_restore 3 = .ok (.invokestatic 130, 3) := by decide +kernel
theorem dX5_restore_6 : decode cX5_restore 6 = .ok (.ifCond .ne 6, 3) := by decide +kernel
theorem dX5_restore_9 : decode cX5_restore 9 = .ok (.bipush (-2), 2) := by decide +kernel
theorem dX5_restore_11 : decode cX5_restore 11 = .ok (.ireturn, 1) := by decide +kernel
theorem dX5_restore_12 : decode cX5_restore 12 = .ok (.aload_n 0, 1) := by decide +kernel
theorem dX5_restore_13 : decode cX5_restore 13 = .ok (.getfield 25, 3) := by decide +kernel
theorem dX5_restore_16 : decode cX5_restore 16 = .ok (.iload_n 1, 1) := by decide +kernel
theorem dX5_restore_17 : decode cX5_restore 17 = .ok (.iaload, 1) := by decide +kernel
theorem dX5_restore_18 : decode cX5_restore 18 = .ok (.ifCond .ne 6, 3) := by decide +kernel
theorem dX5_restore_21 : decode cX5_restore 21 = .ok (.bipush (-5), 2) := by decide +kernel
theorem dX5_restore_23 : decode cX5_restore 23 = .ok (.ireturn, 1) := by decide +kernel
theorem dX5_restore_24 : decode cX5_restore 24 = .ok (.aload_n 0, 1) := by decide +kernel
theorem dX5_restore_25 : decode cX5_restore 25 = .ok (.aload_n 0, 1) := by decide +kernel
theorem dX5_restore_26 : decode cX5_restore 26 = .ok (.getfield 7, 3) := by decide +kernel
theorem dX5_restore_29 : decode cX5_restore 29 = .ok (.invokevirtual 138, 3) := by decide +kernel
theorem dX5_restore_32 : decode cX5_restore 32 = .ok (.aload_n 0, 1) := by decide +kernel
theorem dX5_restore_33 : decode cX5_restore 33 = .ok (.getfield 22, 3) := by decide +kernel
theorem dX5_restore_36 : decode cX5_restore 36 = .ok (.sipush 763, 3) := by decide +kernel
theorem dX5_restore_39 : decode cX5_restore 39 = .ok (.iload_n 1, 1) := by decide +kernel
theorem dX5_restore_40 : decode cX5_restore 40 = .ok (.imul, 1) := by decide +kernel
theorem dX5_restore_41 : decode cX5_restore 41 = .ok (.aload_n 0, 1) := by decide +kernel
theorem dX5_restore_42 : decode cX5_restore 42 = .ok (.getfield 7, 3) := by decide +kernel
theorem dX5_restore_45 : decode cX5_restore 45 = .ok (.iconst 0, 1) := by decide +kernel
theorem dX5_restore_46 : decode cX5_restore 46 = .ok (.invokestatic 41, 3) := by decide +kernel
theorem dX5_restore_49 : decode cX5_restore 49 = .ok (.aload_n 0, 1) := by decide +kernel
theorem dX5_restore_50 : decode cX5_restore 50 = .ok (.getfield 7, 3) := by decide +kernel
theorem dX5_restore_53 : decode cX5_restore 53 = .ok (.iconst 2, 1) := by decide +kernel
theorem dX5_restore_54 : decode cX5_restore 54 = .ok (.iaload, 1) := by decide +kernel
theorem dX5_restore_55 : decode cX5_restore 55 = .ok (.ireturn, 1) := by decide +kernel
theorem dJ9_max_7cf53_0 : decode cJ9_max_7cf53 0 = .ok (.iload_n 0, 1) := by decide +kernel
theorem dJ9_max_7cf53_1 : decode cJ9_max_7cf53 1 = .ok (.iload_n 1, 1) := by decide +kernel
theorem dJ9_max_7cf53_2 : decode cJ9_max_7cf53 2 = .ok (.if_icmp .lt 7, 3) := by decide +kernel
theorem dJ9_max_7cf53_5 : decode cJ9_max_7cf53 5 = .ok (.iload_n 0, 1) := by decide +kernel
theorem dJ9_max_7cf53_6 : decode cJ9_max_7cf53 6 = .ok (.goto 4, 3) := by decide +kernel
theorem dJ9_max_7cf53_9 : decode cJ9_max_7cf53 9 = .ok (.iload_n 1, 1) := by decide +kernel
theorem dJ9_max_7cf53_10 : decode cJ9_max_7cf53 10 = .ok (.ireturn, 1) := by decide +kernel
theorem dJ9_min_7cf53_0 : decode cJ9_min_7cf53 0 = .ok (.iload_n 0, 1) := by decide +kernel
theorem dJ9_min_7cf53_1 : decode cJ9_min_7cf53 1 = .ok (.iload_n 1, 1) := by decide +kernel
theorem dJ9_min_7cf53_2 : decode cJ9_min_7cf53 2 = .ok (.if_icmp .gt 7, 3) := by decide +kernel
theorem dJ9_min_7cf53_5 : decode cJ9_min_7cf53 5 = .ok (.iload_n 0, 1) := by decide +kernel
theorem dJ9_min_7cf53_6 : decode cJ9_min_7cf53 6 = .ok (.goto 4, 3) := by decide +kernel
theorem dJ9_min_7cf53_9 : decode cJ9_min_7cf53 9 = .ok (.iload_n 1, 1) := by decide +kernel
theorem dJ9_min_7cf53_10 : decode cJ9_min_7cf53 10 = .ok (.ireturn, 1) := by decide +kernel
theorem dJ7_fill_53178_0 : decode cJ7_fill_53178 0 = .ok (.iconst 0, 1) := by decide +kernel
theorem dJ7_fill_53178_1 : decode cJ7_fill_53178 1 = .ok (.istore_n 2, 1) := by decide +kernel
theorem dJ7_fill_53178_2 : decode cJ7_fill_53178 2 = .ok (.aload_n 0, 1) := by decide +kernel
theorem dJ7_fill_53178_3 : decode cJ7_fill_53178 3 = .ok (.arraylength, 1) := by decide +kernel
theorem dJ7_fill_53178_4 : decode cJ7_fill_53178 4 = .ok (.istore_n 3, 1) := by decide +kernel
theorem dJ7_fill_53178_5 : decode cJ7_fill_53178 5 = .ok (.iload_n 2, 1) := by decide +kernel
theorem dJ7_fill_53178_6 : decode cJ7_fill_53178 6 = .ok (.iload_n 3, 1) := by decide +kernel
theorem dJ7_fill_53178_7 : decode cJ7_fill_53178 7 = .ok (.if_icmp .ge 13, 3) := by decide +kernel
theorem dJ7_fill_53178_10 : decode cJ7_fill_53178 10 = .ok (.aload_n 0, 1) := by decide +kernel
theorem dJ7_fill_53178_11 : decode cJ7_fill_53178 11 = .ok (.iload_n 2, 1) := by decide +kernel
theorem dJ7_fill_53178_12 : decode cJ7_fill_53178 12 = .ok (.iload_n 1, 1) := by decide +kernel
theorem dJ7_fill_53178_13 : decode cJ7_fill_53178 13 = .ok (.iastore, 1) := by decide +kernel
theorem dJ7_fill_53178_14 : decode cJ7_fill_53178 14 = .ok (.iinc 2 1, 3) := by decide +kernel
theorem dJ7_fill_53178_17 : decode cJ7_fill_53178 17 = .ok (.goto (-12), 3) := by decide +kernel
theorem dJ7_fill_53178_20 : decode cJ7_fill_53178 20 = .ok (.return_, 1) := by decide +kernel
theorem dL_law_0 : decode cL_law 0 = .ok (.new 7, 3) := by decide +kernel
theorem dL_law_3 : decode cL_law 3 = .ok (.dup, 1) := by decide +kernel
theorem dL_law_4 : decode cL_law 4 = .ok (.invokespecial 9, 3) := by decide +kernel
theorem dL_law_7 : decode cL_law 7 = .ok (.astore_n 1, 1) := by decide +kernel
theorem dL_law_8 : decode cL_law 8 = .ok (.new 10, 3) := by decide +kernel
theorem dL_law_11 : decode cL_law 11 = .ok (.dup, 1) := by decide +kernel
theorem dL_law_12 : decode cL_law 12 = .ok (.invokespecial 12, 3) := by decide +kernel
theorem dL_law_15 : decode cL_law 15 = .ok (.astore_n 2, 1) := by decide +kernel
theorem dL_law_16 : decode cL_law 16 = .ok (.iconst 0, 1) := by decide +kernel
theorem dL_law_17 : decode cL_law 17 = .ok (.istore_n 3, 1) := by decide +kernel
theorem dL_law_18 : decode cL_law 18 = .ok (.iload_n 3, 1) := by decide +kernel
theorem dL_law_19 : decode cL_law 19 = .ok (.aload_n 0, 1) := by decide +kernel
theorem dL_law_20 : decode cL_law 20 = .ok (.arraylength, 1) := by decide +kernel
theorem dL_law_21 : decode cL_law 21 = .ok (.iconst 4, 1) := by decide +kernel
theorem dL_law_22 : decode cL_law 22 = .ok (.isub, 1) := by decide +kernel
theorem dL_law_23 : decode cL_law 23 = .ok (.if_icmp .gt 668, 3) := by decide +kernel
theorem dL_law_26 : decode cL_law 26 = .ok (.aload_n 0, 1) := by decide +kernel
theorem dL_law_27 : decode cL_law 27 = .ok (.iload_n 3, 1) := by decide +kernel
theorem dL_law_28 : decode cL_law 28 = .ok (.iaload, 1) := by decide +kernel
theorem dL_law_29 : decode cL_law 29 = .ok (.bipush 31, 2) := by decide +kernel
theorem dL_law_31 : decode cL_law 31 = .ok (.iand, 1) := by decide +kernel
theorem dL_law_32 : decode cL_law 32 = .ok (.tableswitch 653 0 20 #[100, 133, 146, 179, 202, 215, 248, 281, 324, 357, 400, 423, 446, 479, 492, 515, 568, 581, 594, 607, 630], 100) := by decide +kernel
theorem dL_law_132 : decode cL_law 132 = .ok (.aload_n 1, 1) := by decide +kernel
theorem dL_law_133 : decode cL_law 133 = .ok (.aload_n 0, 1) := by decide +kernel
theorem dL_law_134 : decode cL_law 134 = .ok (.iload_n 3, 1) := by decide +kernel
theorem dL_law_135 : decode cL_law 135 = .ok (.iconst 1, 1) := by decide +kernel
theorem dL_law_136 : decode cL_law 136 = .ok (.iadd, 1) := by decide +kernel
theorem dL_law_137 : decode cL_law 137 = .ok (.iaload, 1) := by decide +kernel
theorem dL_law_138 : decode cL_law 138 = .ok (.aload_n 0, 1) := by decide +kernel
theorem dL_law_139 : decode cL_law 139 = .ok (.iload_n 3, 1) := by decide +kernel
theorem dL_law_140 : decode cL_law 140 = .ok (.iconst 2, 1) := by decide +kernel
theorem dL_law_141 : decode cL_law 141 = .ok (.iadd, 1) := by decide +kernel
theorem dL_law_142 : decode cL_law 142 = .ok (.iaload, 1) := by decide +kernel
theorem dL_law_143 : decode cL_law 143 = .ok (.invokevirtual 13, 3) := by decide +kernel
theorem dL_law_146 : decode cL_law 146 = .ok (.aload_n 2, 1) := by decide +kernel
theorem dL_law_147 : decode cL_law 147 = .ok (.aload_n 0, 1) := by decide +kernel
theorem dL_law_148 : decode cL_law 148 = .ok (.iload_n 3, 1) := by decide +kernel
theorem dL_law_149 : decode cL_law 149 = .ok (.iconst 1, 1) := by decide +kernel
theorem dL_law_150 : decode cL_law 150 = .ok (.iadd, 1) := by decide +kernel
theorem dL_law_151 : decode cL_law 151 = .ok (.iaload, 1) := by decide +kernel
theorem dL_law_152 : decode cL_law 152 = .ok (.aload_n 0, 1) := by decide +kernel
theorem dL_law_153 : decode cL_law 153 = .ok (.iload_n 3, 1) := by decide +kernel
theorem dL_law_154 : decode cL_law 154 = .ok (.iconst 2, 1) := by decide +kernel
theorem dL_law_155 : decode cL_law 155 = .ok (.iadd, 1) := by decide +kernel
theorem dL_law_156 : decode cL_law 156 = .ok (.iaload, 1) := by decide +kernel
theorem dL_law_157 : decode cL_law 157 = .ok (.invokevirtual 17, 3) := by decide +kernel
theorem dL_law_160 : decode cL_law 160 = .ok (.if_icmp .eq 525, 3) := by decide +kernel
theorem dL_law_163 : decode cL_law 163 = .ok (.iconst 0, 1) := by decide +kernel
theorem dL_law_164 : decode cL_law 164 = .ok (.ireturn, 1) := by decide +kernel
theorem dL_law_165 : decode cL_law 165 = .ok (.aload_n 1, 1) := by decide +kernel
theorem dL_law_166 : decode cL_law 166 = .ok (.invokevirtual 18, 3) := by decide +kernel
theorem dL_law_169 : decode cL_law 169 = .ok (.aload_n 2, 1) := by decide +kernel
theorem dL_law_170 : decode cL_law 170 = .ok (.invokevirtual 22, 3) := by decide +kernel
theorem dL_law_173 : decode cL_law 173 = .ok (.if_icmp .eq 512, 3) := by decide +kernel
theorem dL_law_176 : decode cL_law 176 = .ok (.iconst 0, 1) := by decide +kernel
theorem dL_law_177 : decode cL_law 177 = .ok (.ireturn, 1) := by decide +kernel
theorem dL_law_178 : decode cL_law 178 = .ok (.aload_n 1, 1) := by decide +kernel
theorem dL_law_179 : decode cL_law 179 = .ok (.aload_n 0, 1) := by decide +kernel
theorem dL_law_180 : decode cL_law 180 = .ok (.iload_n 3, 1) := by decide +kernel
theorem dL_law_181 : decode cL_law 181 = .ok (.iconst 1, 1) := by decide +kernel
theorem dL_law_182 : decode cL_law 182 = .ok (.iadd, 1) := by decide +kernel
theorem dL_law_183 : decode cL_law 183 = .ok (.iaload, 1) := by decide +kernel
theorem dL_law_184 : decode cL_law 184 = .ok (.aload_n 0, 1) := by decide +kernel
theorem dL_law_185 : decode cL_law 185 = .ok (.iload_n 3, 1) := by decide +kernel
theorem dL_law_186 : decode cL_law 186 = .ok (.iconst 2, 1) := by decide +kernel
theorem dL_law_187 : decode cL_law 187 = .ok (.iadd, 1) := by decide +kernel
theorem dL_law_188 : decode cL_law 188 = .ok (.iaload, 1) := by decide +kernel
theorem dL_law_189 : decode cL_law 189 = .ok (.invokevirtual 23, 3) := by decide +kernel
theorem dL_law_192 : decode cL_law 192 = .ok (.aload_n 2, 1) := by decide +kernel
theorem dL_law_193 : decode cL_law 193 = .ok (.aload_n 0, 1) := by decide +kernel
theorem dL_law_194 : decode cL_law 194 = .ok (.iload_n 3, 1) := by decide +kernel
theorem dL_law_195 : decode cL_law 195 = .ok (.iconst 1, 1) := by decide +kernel
theorem dL_law_196 : decode cL_law 196 = .ok (.iadd, 1) := by decide +kernel
theorem dL_law_197 : decode cL_law 197 = .ok (.iaload, 1) := by decide +kernel
theorem dL_law_198 : decode cL_law 198 = .ok (.aload_n 0, 1) := by decide +kernel
theorem dL_law_199 : decode cL_law 199 = .ok (.iload_n 3, 1) := by decide +kernel
theorem dL_law_200 : decode cL_law 200 = .ok (.iconst 2, 1) := by decide +kernel
theorem dL_law_201 : decode cL_law 201 = .ok (.iadd, 1) := by decide +kernel
theorem dL_law_202 : decode cL_law 202 = .ok (.iaload, 1) := by decide +kernel
theorem dL_law_203 : decode cL_law 203 = .ok (.invokevirtual 26, 3) := by decide +kernel
theorem dL_law_206 : decode cL_law 206 = .ok (.if_icmp .eq 479, 3) := by decide +kernel
theorem dL_law_209 : decode cL_law 209 = .ok (.iconst 0, 1) := by decide +kernel
theorem dL_law_210 : decode cL_law 210 = .ok (.ireturn, 1) := by decide +kernel
theorem dL_law_211 : decode cL_law 211 = .ok (.aload_n 1, 1) := by decide +kernel
theorem dL_law_212 : decode cL_law 212 = .ok (.aload_n 0, 1) := by decide +kernel
theorem dL_law_213 : decode cL_law 213 = .ok (.iload_n 3, 1) := by decide +kernel
theorem dL_law_214 : decode cL_law 214 = .ok (.iconst 1, 1) := by decide +kernel
theorem dL_law_215 : decode cL_law 215 = .ok (.iadd, 1) := by decide +kernel
theorem dL_law_216 : decode cL_law 216 = .ok (.iaload, 1) := by decide +kernel
theorem dL_law_217 : decode cL_law 217 = .ok (.invokevirtual 27, 3) := by decide +kernel
theorem dL_law_220 : decode cL_law 220 = .ok (.aload_n 2, 1) := by decide +kernel
theorem dL_law_221 : decode cL_law 221 = .ok (.aload_n 0, 1) := by decide +kernel
theorem dL_law_222 : decode cL_law 222 = .ok (.iload_n 3, 1) := by decide +kernel
theorem dL_law_223 : decode cL_law 223 = .ok (.iconst 1, 1) := by decide +kernel
theorem dL_law_224 : decode cL_law 224 = .ok (.iadd, 1) := by decide +kernel
theorem dL_law_225 : decode cL_law 225 = .ok (.iaload, 1) := by decide +kernel
theorem dL_law_226 : decode cL_law 226 = .ok (.invokevirtual 31, 3) := by decide +kernel
theorem dL_law_229 : decode cL_law 229 = .ok (.if_icmp .eq 456, 3) := by decide +kernel
theorem dL_law_232 : decode cL_law 232 = .ok (.iconst 0, 1) := by decide +kernel
theorem dL_law_233 : decode cL_law 233 = .ok (.ireturn, 1) := by decide +kernel
theorem dL_law_234 : decode cL_law 234 = .ok (.aload_n 1, 1) := by decide +kernel
theorem dL_law_235 : decode cL_law 235 = .ok (.invokevirtual 32, 3) := by decide +kernel
theorem dL_law_238 : decode cL_law 238 = .ok (.aload_n 2, 1) := by decide +kernel
theorem dL_law_239 : decode cL_law 239 = .ok (.invokevirtual 35, 3) := by decide +kernel
theorem dL_law_242 : decode cL_law 242 = .ok (.if_icmp .eq 443, 3) := by decide +kernel
theorem dL_law_245 : decode cL_law 245 = .ok (.iconst 0, 1) := by decide +kernel
theorem dL_law_246 : decode cL_law 246 = .ok (.ireturn, 1) := by decide +kernel
theorem dL_law_247 : decode cL_law 247 = .ok (.aload_n 1, 1) := by decide +kernel
theorem dL_law_248 : decode cL_law 248 = .ok (.aload_n 0, 1) := by decide +kernel
theorem dL_law_249 : decode cL_law 249 = .ok (.iload_n 3, 1) := by decide +kernel
theorem dL_law_250 : decode cL_law 250 = .ok (.iconst 1, 1) := by decide +kernel
theorem dL_law_251 : decode cL_law 251 = .ok (.iadd, 1) := by decide +kernel
theorem dL_law_252 : decode cL_law 252 = .ok (.iaload, 1) := by decide +kernel
theorem dL_law_253 : decode cL_law 253 = .ok (.aload_n 0, 1) := by decide +kernel
theorem dL_law_254 : decode cL_law 254 = .ok (.iload_n 3, 1) := by decide +kernel
theorem dL_law_255 : decode cL_law 255 = .ok (.iconst 2, 1) := by decide +kernel
theorem dL_law_256 : decode cL_law 256 = .ok (.iadd, 1) := by decide +kernel
theorem dL_law_257 : decode cL_law 257 = .ok (.iaload, 1) := by decide +kernel
theorem dL_law_258 : decode cL_law 258 = .ok (.invokevirtual 36, 3) := by decide +kernel
theorem dL_law_261 : decode cL_law 261 = .ok (.aload_n 2, 1) := by decide +kernel
theorem dL_law_262 : decode cL_law 262 = .ok (.aload_n 0, 1) := by decide +kernel
theorem dL_law_263 : decode cL_law 263 = .ok (.iload_n 3, 1) := by decide +kernel
theorem dL_law_264 : decode cL_law 264 = .ok (.iconst 1, 1) := by decide +kernel
theorem dL_law_265 : decode cL_law 265 = .ok (.iadd, 1) := by decide +kernel
theorem dL_law_266 : decode cL_law 266 = .ok (.iaload, 1) := by decide +kernel
theorem dL_law_267 : decode cL_law 267 = .ok (.aload_n 0, 1) := by decide +kernel
theorem dL_law_268 : decode cL_law 268 = .ok (.iload_n 3, 1) := by decide +kernel
theorem dL_law_269 : decode cL_law 269 = .ok (.iconst 2, 1) := by decide +kernel
theorem dL_law_270 : decode cL_law 270 = .ok (.iadd, 1) := by decide +kernel
theorem dL_law_271 : decode cL_law 271 = .ok (.iaload, 1) := by decide +kernel
theorem dL_law_272 : decode cL_law 272 = .ok (.invokevirtual 39, 3) := by decide +kernel
theorem dL_law_275 : decode cL_law 275 = .ok (.if_icmp .eq 410, 3) := by decide +kernel
theorem dL_law_278 : decode cL_law 278 = .ok (.iconst 0, 1) := by decide +kernel
theorem dL_law_279 : decode cL_law 279 = .ok (.ireturn, 1) := by decide +kernel
theorem dL_law_280 : decode cL_law 280 = .ok (.aload_n 1, 1) := by decide +kernel
theorem dL_law_281 : decode cL_law 281 = .ok (.aload_n 0, 1) := by decide +kernel
theorem dL_law_282 : decode cL_law 282 = .ok (.iload_n 3, 1) := by decide +kernel
theorem dL_law_283 : decode cL_law 283 = .ok (.iconst 1, 1) := by decide +kernel
theorem dL_law_284 : decode cL_law 284 = .ok (.iadd, 1) := by decide +kernel
theorem dL_law_285 : decode cL_law 285 = .ok (.iaload, 1) := by decide +kernel
theorem dL_law_286 : decode cL_law 286 = .ok (.aload_n 0, 1) := by decide +kernel
theorem dL_law_287 : decode cL_law 287 = .ok (.iload_n 3, 1) := by decide +kernel
theorem dL_law_288 : decode cL_law 288 = .ok (.iconst 2, 1) := by decide +kernel
theorem dL_law_289 : decode cL_law 289 = .ok (.iadd, 1) := by decide +kernel
theorem dL_law_290 : decode cL_law 290 = .ok (.iaload, 1) := by decide +kernel
theorem dL_law_291 : decode cL_law 291 = .ok (.invokevirtual 40, 3) := by decide +kernel
theorem dL_law_294 : decode cL_law 294 = .ok (.aload_n 2, 1) := by decide +kernel
theorem dL_law_295 : decode cL_law 295 = .ok (.aload_n 0, 1) := by decide +kernel
theorem dL_law_296 : decode cL_law 296 = .ok (.iload_n 3, 1) := by decide +kernel
theorem dL_law_297 : decode cL_law 297 = .ok (.iconst 1, 1) := by decide +kernel
theorem dL_law_298 : decode cL_law 298 = .ok (.iadd, 1) := by decide +kernel
theorem dL_law_299 : decode cL_law 299 = .ok (.iaload, 1) := by decide +kernel
theorem dL_law_300 : decode cL_law 300 = .ok (.aload_n 0, 1) := by decide +kernel
theorem dL_law_301 : decode cL_law 301 = .ok (.iload_n 3, 1) := by decide +kernel
theorem dL_law_302 : decode cL_law 302 = .ok (.iconst 2, 1) := by decide +kernel
theorem dL_law_303 : decode cL_law 303 = .ok (.iadd, 1) := by decide +kernel
theorem dL_law_304 : decode cL_law 304 = .ok (.iaload, 1) := by decide +kernel
theorem dL_law_305 : decode cL_law 305 = .ok (.invokevirtual 43, 3) := by decide +kernel
theorem dL_law_308 : decode cL_law 308 = .ok (.if_icmp .eq 377, 3) := by decide +kernel
theorem dL_law_311 : decode cL_law 311 = .ok (.iconst 0, 1) := by decide +kernel
theorem dL_law_312 : decode cL_law 312 = .ok (.ireturn, 1) := by decide +kernel
theorem dL_law_313 : decode cL_law 313 = .ok (.aload_n 1, 1) := by decide +kernel
theorem dL_law_314 : decode cL_law 314 = .ok (.aload_n 0, 1) := by decide +kernel
theorem dL_law_315 : decode cL_law 315 = .ok (.iload_n 3, 1) := by decide +kernel
theorem dL_law_316 : decode cL_law 316 = .ok (.iconst 1, 1) := by decide +kernel
theorem dL_law_317 : decode cL_law 317 = .ok (.iadd, 1) := by decide +kernel
theorem dL_law_318 : decode cL_law 318 = .ok (.iaload, 1) := by decide +kernel
theorem dL_law_319 : decode cL_law 319 = .ok (.aload_n 0, 1) := by decide +kernel
theorem dL_law_320 : decode cL_law 320 = .ok (.iload_n 3, 1) := by decide +kernel
theorem dL_law_321 : decode cL_law 321 = .ok (.iconst 2, 1) := by decide +kernel
theorem dL_law_322 : decode cL_law 322 = .ok (.iadd, 1) := by decide +kernel
theorem dL_law_323 : decode cL_law 323 = .ok (.iaload, 1) := by decide +kernel
theorem dL_law_324 : decode cL_law 324 = .ok (.aload_n 0, 1) := by decide +kernel
theorem dL_law_325 : decode cL_law 325 = .ok (.iload_n 3, 1) := by decide +kernel
theorem dL_law_326 : decode cL_law 326 = .ok (.iconst 3, 1) := by decide +kernel
theorem dL_law_327 : decode cL_law 327 = .ok (.iadd, 1) := by decide +kernel
theorem dL_law_328 : decode cL_law 328 = .ok (.iaload, 1) := by decide +kernel
theorem dL_law_329 : decode cL_law 329 = .ok (.invokevirtual 44, 3) := by decide +kernel
theorem dL_law_332 : decode cL_law 332 = .ok (.aload_n 2, 1) := by decide +kernel
theorem dL_law_333 : decode cL_law 333 = .ok (.aload_n 0, 1) := by decide +kernel
theorem dL_law_334 : decode cL_law 334 = .ok (.iload_n 3, 1) := by decide +kernel
theorem dL_law_335 : decode cL_law 335 = .ok (.iconst 1, 1) := by decide +kernel
theorem dL_law_336 : decode cL_law 336 = .ok (.iadd, 1) := by decide +kernel
theorem dL_law_337 : decode cL_law 337 = .ok (.iaload, 1) := by decide +kernel
theorem dL_law_338 : decode cL_law 338 = .ok (.aload_n 0, 1) := by decide +kernel
theorem dL_law_339 : decode cL_law 339 = .ok (.iload_n 3, 1) := by decide +kernel
theorem dL_law_340 : decode cL_law 340 = .ok (.iconst 2, 1) := by decide +kernel
theorem dL_law_341 : decode cL_law 341 = .ok (.iadd, 1) := by decide +kernel
theorem dL_law_342 : decode cL_law 342 = .ok (.iaload, 1) := by decide +kernel
theorem dL_law_343 : decode cL_law 343 = .ok (.aload_n 0, 1) := by decide +kernel
theorem dL_law_344 : decode cL_law 344 = .ok (.iload_n 3, 1) := by decide +kernel
theorem dL_law_345 : decode cL_law 345 = .ok (.iconst 3, 1) := by decide +kernel
theorem dL_law_346 : decode cL_law 346 = .ok (.iadd, 1) := by decide +kernel
theorem dL_law_347 : decode cL_law 347 = .ok (.iaload, 1) := by decide +kernel
theorem dL_law_348 : decode cL_law 348 = .ok (.invokevirtual 48, 3) := by decide +kernel
theorem dL_law_351 : decode cL_law 351 = .ok (.if_icmp .eq 334, 3) := by decide +kernel
theorem dL_law_354 : decode cL_law 354 = .ok (.iconst 0, 1) := by decide +kernel
theorem dL_law_355 : decode cL_law 355 = .ok (.ireturn, 1) := by decide +kernel
theorem dL_law_356 : decode cL_law 356 = .ok (.aload_n 1, 1) := by decide +kernel
theorem dL_law_357 : decode cL_law 357 = .ok (.aload_n 0, 1) := by decide +kernel
theorem dL_law_358 : decode cL_law 358 = .ok (.iload_n 3, 1) := by decide +kernel
theorem dL_law_359 : decode cL_law 359 = .ok (.iconst 1, 1) := by decide +kernel
theorem dL_law_360 : decode cL_law 360 = .ok (.iadd, 1) := by decide +kernel
theorem dL_law_361 : decode cL_law 361 = .ok (.iaload, 1) := by decide +kernel
theorem dL_law_362 : decode cL_law 362 = .ok (.aload_n 0, 1) := by decide +kernel
theorem dL_law_363 : decode cL_law 363 = .ok (.iload_n 3, 1) := by decide +kernel
theorem dL_law_364 : decode cL_law 364 = .ok (.iconst 2, 1) := by decide +kernel
theorem dL_law_365 : decode cL_law 365 = .ok (.iadd, 1) := by decide +kernel
theorem dL_law_366 : decode cL_law 366 = .ok (.iaload, 1) := by decide +kernel
theorem dL_law_367 : decode cL_law 367 = .ok (.invokevirtual 49, 3) := by decide +kernel
theorem dL_law_370 : decode cL_law 370 = .ok (.aload_n 2, 1) := by decide +kernel
theorem dL_law_371 : decode cL_law 371 = .ok (.aload_n 0, 1) := by decide +kernel
theorem dL_law_372 : decode cL_law 372 = .ok (.iload_n 3, 1) := by decide +kernel
theorem dL_law_373 : decode cL_law 373 = .ok (.iconst 1, 1) := by decide +kernel
theorem dL_law_374 : decode cL_law 374 = .ok (.iadd, 1) := by decide +kernel
theorem dL_law_375 : decode cL_law 375 = .ok (.iaload, 1) := by decide +kernel
theorem dL_law_376 : decode cL_law 376 = .ok (.aload_n 0, 1) := by decide +kernel
theorem dL_law_377 : decode cL_law 377 = .ok (.iload_n 3, 1) := by decide +kernel
theorem dL_law_378 : decode cL_law 378 = .ok (.iconst 2, 1) := by decide +kernel
theorem dL_law_379 : decode cL_law 379 = .ok (.iadd, 1) := by decide +kernel
theorem dL_law_380 : decode cL_law 380 = .ok (.iaload, 1) := by decide +kernel
theorem dL_law_381 : decode cL_law 381 = .ok (.invokevirtual 52, 3) := by decide +kernel
theorem dL_law_384 : decode cL_law 384 = .ok (.if_icmp .eq 301, 3) := by decide +kernel
theorem dL_law_387 : decode cL_law 387 = .ok (.iconst 0, 1) := by decide +kernel
theorem dL_law_388 : decode cL_law 388 = .ok (.ireturn, 1) := by decide +kernel
theorem dL_law_389 : decode cL_law 389 = .ok (.aload_n 1, 1) := by decide +kernel
theorem dL_law_390 : decode cL_law 390 = .ok (.aload_n 0, 1) := by decide +kernel
theorem dL_law_391 : decode cL_law 391 = .ok (.iload_n 3, 1) := by decide +kernel
theorem dL_law_392 : decode cL_law 392 = .ok (.iconst 1, 1) := by decide +kernel
theorem dL_law_393 : decode cL_law 393 = .ok (.iadd, 1) := by decide +kernel
theorem dL_law_394 : decode cL_law 394 = .ok (.iaload, 1) := by decide +kernel
theorem dL_law_395 : decode cL_law 395 = .ok (.aload_n 0, 1) := by decide +kernel
theorem dL_law_396 : decode cL_law 396 = .ok (.iload_n 3, 1) := by decide +kernel
theorem dL_law_397 : decode cL_law 397 = .ok (.iconst 2, 1) := by decide +kernel
theorem dL_law_398 : decode cL_law 398 = .ok (.iadd, 1) := by decide +kernel
theorem dL_law_399 : decode cL_law 399 = .ok (.iaload, 1) := by decide +kernel
theorem dL_law_400 : decode cL_law 400 = .ok (.aload_n 0, 1) := by decide +kernel
theorem dL_law_401 : decode cL_law 401 = .ok (.iload_n 3, 1) := by decide +kernel
theorem dL_law_402 : decode cL_law 402 = .ok (.iconst 3, 1) := by decide +kernel
theorem dL_law_403 : decode cL_law 403 = .ok (.iadd, 1) := by decide +kernel
theorem dL_law_404 : decode cL_law 404 = .ok (.iaload, 1) := by decide +kernel
theorem dL_law_405 : decode cL_law 405 = .ok (.invokevirtual 53, 3) := by decide +kernel
theorem dL_law_408 : decode cL_law 408 = .ok (.aload_n 2, 1) := by decide +kernel
theorem dL_law_409 : decode cL_law 409 = .ok (.aload_n 0, 1) := by decide +kernel
theorem dL_law_410 : decode cL_law 410 = .ok (.iload_n 3, 1) := by decide +kernel
theorem dL_law_411 : decode cL_law 411 = .ok (.iconst 1, 1) := by decide +kernel
theorem dL_law_412 : decode cL_law 412 = .ok (.iadd, 1) := by decide +kernel
theorem dL_law_413 : decode cL_law 413 = .ok (.iaload, 1) := by decide +kernel
theorem dL_law_414 : decode cL_law 414 = .ok (.aload_n 0, 1) := by decide +kernel
theorem dL_law_415 : decode cL_law 415 = .ok (.iload_n 3, 1) := by decide +kernel
theorem dL_law_416 : decode cL_law 416 = .ok (.iconst 2, 1) := by decide +kernel
theorem dL_law_417 : decode cL_law 417 = .ok (.iadd, 1) := by decide +kernel
theorem dL_law_418 : decode cL_law 418 = .ok (.iaload, 1) := by decide +kernel
theorem dL_law_419 : decode cL_law 419 = .ok (.aload_n 0, 1) := by decide +kernel
theorem dL_law_420 : decode cL_law 420 = .ok (.iload_n 3, 1) := by decide +kernel
theorem dL_law_421 : decode cL_law 421 = .ok (.iconst 3, 1) := by decide +kernel
theorem dL_law_422 : decode cL_law 422 = .ok (.iadd, 1) := by decide +kernel
theorem dL_law_423 : decode cL_law 423 = .ok (.iaload, 1) := by decide +kernel
theorem dL_law_424 : decode cL_law 424 = .ok (.invokevirtual 56, 3) := by decide +kernel
theorem dL_law_427 : decode cL_law 427 = .ok (.if_icmp .eq 258, 3) := by decide +kernel
theorem dL_law_430 : decode cL_law 430 = .ok (.iconst 0, 1) := by decide +kernel
theorem dL_law_431 : decode cL_law 431 = .ok (.ireturn, 1) := by decide +kernel
theorem dL_law_432 : decode cL_law 432 = .ok (.aload_n 1, 1) := by decide +kernel
theorem dL_law_433 : decode cL_law 433 = .ok (.aload_n 0, 1) := by decide +kernel
theorem dL_law_434 : decode cL_law 434 = .ok (.iload_n 3, 1) := by decide +kernel
theorem dL_law_435 : decode cL_law 435 = .ok (.iconst 1, 1) := by decide +kernel
theorem dL_law_436 : decode cL_law 436 = .ok (.iadd, 1) := by decide +kernel
theorem dL_law_437 : decode cL_law 437 = .ok (.iaload, 1) := by decide +kernel
theorem dL_law_438 : decode cL_law 438 = .ok (.invokevirtual 57, 3) := by decide +kernel
theorem dL_law_441 : decode cL_law 441 = .ok (.aload_n 2, 1) := by decide +kernel
theorem dL_law_442 : decode cL_law 442 = .ok (.aload_n 0, 1) := by decide +kernel
theorem dL_law_443 : decode cL_law 443 = .ok (.iload_n 3, 1) := by decide +kernel
theorem dL_law_444 : decode cL_law 444 = .ok (.iconst 1, 1) := by decide +kernel
theorem dL_law_445 : decode cL_law 445 = .ok (.iadd, 1) := by decide +kernel
theorem dL_law_446 : decode cL_law 446 = .ok (.iaload, 1) := by decide +kernel
theorem dL_law_447 : decode cL_law 447 = .ok (.invokevirtual 60, 3) := by decide +kernel
theorem dL_law_450 : decode cL_law 450 = .ok (.if_icmp .eq 235, 3) := by decide +kernel
theorem dL_law_453 : decode cL_law 453 = .ok (.iconst 0, 1) := by decide +kernel
theorem dL_law_454 : decode cL_law 454 = .ok (.ireturn, 1) := by decide +kernel
theorem dL_law_455 : decode cL_law 455 = .ok (.aload_n 1, 1) := by decide +kernel
theorem dL_law_456 : decode cL_law 456 = .ok (.aload_n 0, 1) := by decide +kernel
theorem dL_law_457 : decode cL_law 457 = .ok (.iload_n 3, 1) := by decide +kernel
theorem dL_law_458 : decode cL_law 458 = .ok (.iconst 1, 1) := by decide +kernel
theorem dL_law_459 : decode cL_law 459 = .ok (.iadd, 1) := by decide +kernel
theorem dL_law_460 : decode cL_law 460 = .ok (.iaload, 1) := by decide +kernel
theorem dL_law_461 : decode cL_law 461 = .ok (.invokevirtual 61, 3) := by decide +kernel
theorem dL_law_464 : decode cL_law 464 = .ok (.aload_n 2, 1) := by decide +kernel
theorem dL_law_465 : decode cL_law 465 = .ok (.aload_n 0, 1) := by decide +kernel
theorem dL_law_466 : decode cL_law 466 = .ok (.iload_n 3, 1) := by decide +kernel
theorem dL_law_467 : decode cL_law 467 = .ok (.iconst 1, 1) := by decide +kernel
theorem dL_law_468 : decode cL_law 468 = .ok (.iadd, 1) := by decide +kernel
theorem dL_law_469 : decode cL_law 469 = .ok (.iaload, 1) := by decide +kernel
theorem dL_law_470 : decode cL_law 470 = .ok (.invokevirtual 64, 3) := by decide +kernel
theorem dL_law_473 : decode cL_law 473 = .ok (.if_icmp .eq 212, 3) := by decide +kernel
theorem dL_law_476 : decode cL_law 476 = .ok (.iconst 0, 1) := by decide +kernel
theorem dL_law_477 : decode cL_law 477 = .ok (.ireturn, 1) := by decide +kernel
theorem dL_law_478 : decode cL_law 478 = .ok (.aload_n 1, 1) := by decide +kernel
theorem dL_law_479 : decode cL_law 479 = .ok (.aload_n 0, 1) := by decide +kernel
theorem dL_law_480 : decode cL_law 480 = .ok (.iload_n 3, 1) := by decide +kernel
theorem dL_law_481 : decode cL_law 481 = .ok (.iconst 1, 1) := by decide +kernel
theorem dL_law_482 : decode cL_law 482 = .ok (.iadd, 1) := by decide +kernel
theorem dL_law_483 : decode cL_law 483 = .ok (.iaload, 1) := by decide +kernel
theorem dL_law_484 : decode cL_law 484 = .ok (.aload_n 0, 1) := by decide +kernel
theorem dL_law_485 : decode cL_law 485 = .ok (.iload_n 3, 1) := by decide +kernel
theorem dL_law_486 : decode cL_law 486 = .ok (.iconst 2, 1) := by decide +kernel
theorem dL_law_487 : decode cL_law 487 = .ok (.iadd, 1) := by decide +kernel
theorem dL_law_488 : decode cL_law 488 = .ok (.iaload, 1) := by decide +kernel
theorem dL_law_489 : decode cL_law 489 = .ok (.invokevirtual 65, 3) := by decide +kernel
theorem dL_law_492 : decode cL_law 492 = .ok (.aload_n 2, 1) := by decide +kernel
theorem dL_law_493 : decode cL_law 493 = .ok (.aload_n 0, 1) := by decide +kernel
theorem dL_law_494 : decode cL_law 494 = .ok (.iload_n 3, 1) := by decide +kernel
theorem dL_law_495 : decode cL_law 495 = .ok (.iconst 1, 1) := by decide +kernel
theorem dL_law_496 : decode cL_law 496 = .ok (.iadd, 1) := by decide +kernel
theorem dL_law_497 : decode cL_law 497 = .ok (.iaload, 1) := by decide +kernel
theorem dL_law_498 : decode cL_law 498 = .ok (.aload_n 0, 1) := by decide +kernel
theorem dL_law_499 : decode cL_law 499 = .ok (.iload_n 3, 1) := by decide +kernel
theorem dL_law_500 : decode cL_law 500 = .ok (.iconst 2, 1) := by decide +kernel
theorem dL_law_501 : decode cL_law 501 = .ok (.iadd, 1) := by decide +kernel
theorem dL_law_502 : decode cL_law 502 = .ok (.iaload, 1) := by decide +kernel
theorem dL_law_503 : decode cL_law 503 = .ok (.invokevirtual 68, 3) := by decide +kernel
theorem dL_law_506 : decode cL_law 506 = .ok (.if_icmp .eq 179, 3) := by decide +kernel
theorem dL_law_509 : decode cL_law 509 = .ok (.iconst 0, 1) := by decide +kernel
theorem dL_law_510 : decode cL_law 510 = .ok (.ireturn, 1) := by decide +kernel
theorem dL_law_511 : decode cL_law 511 = .ok (.aload_n 1, 1) := by decide +kernel
theorem dL_law_512 : decode cL_law 512 = .ok (.invokevirtual 69, 3) := by decide +kernel
theorem dL_law_515 : decode cL_law 515 = .ok (.aload_n 2, 1) := by decide +kernel
theorem dL_law_516 : decode cL_law 516 = .ok (.invokevirtual 72, 3) := by decide +kernel
theorem dL_law_519 : decode cL_law 519 = .ok (.if_icmp .eq 166, 3) := by decide +kernel
theorem dL_law_522 : decode cL_law 522 = .ok (.iconst 0, 1) := by decide +kernel
theorem dL_law_523 : decode cL_law 523 = .ok (.ireturn, 1) := by decide +kernel
theorem dL_law_524 : decode cL_law 524 = .ok (.aload_n 1, 1) := by decide +kernel
theorem dL_law_525 : decode cL_law 525 = .ok (.aload_n 0, 1) := by decide +kernel
theorem dL_law_526 : decode cL_law 526 = .ok (.iload_n 3, 1) := by decide +kernel
theorem dL_law_527 : decode cL_law 527 = .ok (.iconst 1, 1) := by decide +kernel
theorem dL_law_528 : decode cL_law 528 = .ok (.iadd, 1) := by decide +kernel
theorem dL_law_529 : decode cL_law 529 = .ok (.iaload, 1) := by decide +kernel
theorem dL_law_530 : decode cL_law 530 = .ok (.invokevirtual 73, 3) := by decide +kernel
theorem dL_law_533 : decode cL_law 533 = .ok (.aload_n 2, 1) := by decide +kernel
theorem dL_law_534 : decode cL_law 534 = .ok (.aload_n 0, 1) := by decide +kernel
theorem dL_law_535 : decode cL_law 535 = .ok (.iload_n 3, 1) := by decide +kernel
theorem dL_law_536 : decode cL_law 536 = .ok (.iconst 1, 1) := by decide +kernel
theorem dL_law_537 : decode cL_law 537 = .ok (.iadd, 1) := by decide +kernel
theorem dL_law_538 : decode cL_law 538 = .ok (.iaload, 1) := by decide +kernel
theorem dL_law_539 : decode cL_law 539 = .ok (.invokevirtual 76, 3) := by decide +kernel
theorem dL_law_542 : decode cL_law 542 = .ok (.if_icmp .eq 143, 3) := by decide +kernel
theorem dL_law_545 : decode cL_law 545 = .ok (.iconst 0, 1) := by decide +kernel
theorem dL_law_546 : decode cL_law 546 = .ok (.ireturn, 1) := by decide +kernel
theorem dL_law_547 : decode cL_law 547 = .ok (.aload_n 1, 1) := by decide +kernel
theorem dL_law_548 : decode cL_law 548 = .ok (.aload_n 0, 1) := by decide +kernel
theorem dL_law_549 : decode cL_law 549 = .ok (.iload_n 3, 1) := by decide +kernel
theorem dL_law_550 : decode cL_law 550 = .ok (.iconst 1, 1) := by decide +kernel
theorem dL_law_551 : decode cL_law 551 = .ok (.iadd, 1) := by decide +kernel
theorem dL_law_552 : decode cL_law 552 = .ok (.iaload, 1) := by decide +kernel
theorem dL_law_553 : decode cL_law 553 = .ok (.i2l, 1) := by decide +kernel
theorem dL_law_554 : decode cL_law 554 = .ok (.bipush 32, 2) := by decide +kernel
theorem dL_law_556 : decode cL_law 556 = .ok (.lshl, 1) := by decide +kernel
theorem dL_law_557 : decode cL_law 557 = .ok (.aload_n 0, 1) := by decide +kernel
theorem dL_law_558 : decode cL_law 558 = .ok (.iload_n 3, 1) := by decide +kernel
theorem dL_law_559 : decode cL_law 559 = .ok (.iconst 2, 1) := by decide +kernel
theorem dL_law_560 : decode cL_law 560 = .ok (.iadd, 1) := by decide +kernel
theorem dL_law_561 : decode cL_law 561 = .ok (.iaload, 1) := by decide +kernel
theorem dL_law_562 : decode cL_law 562 = .ok (.i2l, 1) := by decide +kernel
theorem dL_law_563 : decode cL_law 563 = .ok (.ldc2_w 77, 3) := by decide +kernel
theorem dL_law_566 : decode cL_law 566 = .ok (.land, 1) := by decide +kernel
theorem dL_law_567 : decode cL_law 567 = .ok (.lor, 1) := by decide +kernel
theorem dL_law_568 : decode cL_law 568 = .ok (.invokevirtual 79, 3) := by decide +kernel
theorem dL_law_571 : decode cL_law 571 = .ok (.aload_n 2, 1) := by decide +kernel
theorem dL_law_572 : decode cL_law 572 = .ok (.aload_n 0, 1) := by decide +kernel
theorem dL_law_573 : decode cL_law 573 = .ok (.iload_n 3, 1) := by decide +kernel
theorem dL_law_574 : decode cL_law 574 = .ok (.iconst 1, 1) := by decide +kernel
theorem dL_law_575 : decode cL_law 575 = .ok (.iadd, 1) := by decide +kernel
theorem dL_law_576 : decode cL_law 576 = .ok (.iaload, 1) := by decide +kernel
theorem dL_law_577 : decode cL_law 577 = .ok (.i2l, 1) := by decide +kernel
theorem dL_law_578 : decode cL_law 578 = .ok (.bipush 32, 2) := by decide +kernel
theorem dL_law_580 : decode cL_law 580 = .ok (.lshl, 1) := by decide +kernel
theorem dL_law_581 : decode cL_law 581 = .ok (.aload_n 0, 1) := by decide +kernel
theorem dL_law_582 : decode cL_law 582 = .ok (.iload_n 3, 1) := by decide +kernel
theorem dL_law_583 : decode cL_law 583 = .ok (.iconst 2, 1) := by decide +kernel
theorem dL_law_584 : decode cL_law 584 = .ok (.iadd, 1) := by decide +kernel
theorem dL_law_585 : decode cL_law 585 = .ok (.iaload, 1) := by decide +kernel
theorem dL_law_586 : decode cL_law 586 = .ok (.i2l, 1) := by decide +kernel
theorem dL_law_587 : decode cL_law 587 = .ok (.ldc2_w 77, 3) := by decide +kernel
theorem dL_law_590 : decode cL_law 590 = .ok (.land, 1) := by decide +kernel
theorem dL_law_591 : decode cL_law 591 = .ok (.lor, 1) := by decide +kernel
theorem dL_law_592 : decode cL_law 592 = .ok (.invokevirtual 83, 3) := by decide +kernel
theorem dL_law_595 : decode cL_law 595 = .ok (.if_icmp .eq 90, 3) := by decide +kernel
theorem dL_law_598 : decode cL_law 598 = .ok (.iconst 0, 1) := by decide +kernel
theorem dL_law_599 : decode cL_law 599 = .ok (.ireturn, 1) := by decide +kernel
theorem dL_law_600 : decode cL_law 600 = .ok (.aload_n 1, 1) := by decide +kernel
theorem dL_law_601 : decode cL_law 601 = .ok (.invokevirtual 84, 3) := by decide +kernel
theorem dL_law_604 : decode cL_law 604 = .ok (.aload_n 2, 1) := by decide +kernel
theorem dL_law_605 : decode cL_law 605 = .ok (.invokevirtual 87, 3) := by decide +kernel
theorem dL_law_608 : decode cL_law 608 = .ok (.if_icmp .eq 77, 3) := by decide +kernel
theorem dL_law_611 : decode cL_law 611 = .ok (.iconst 0, 1) := by decide +kernel
theorem dL_law_612 : decode cL_law 612 = .ok (.ireturn, 1) := by decide +kernel
theorem dL_law_613 : decode cL_law 613 = .ok (.aload_n 1, 1) := by decide +kernel
theorem dL_law_614 : decode cL_law 614 = .ok (.invokevirtual 88, 3) := by decide +kernel
theorem dL_law_617 : decode cL_law 617 = .ok (.aload_n 2, 1) := by decide +kernel
theorem dL_law_618 : decode cL_law 618 = .ok (.invokevirtual 91, 3) := by decide +kernel
theorem dL_law_621 : decode cL_law 621 = .ok (.if_icmp .eq 64, 3) := by decide +kernel
theorem dL_law_624 : decode cL_law 624 = .ok (.iconst 0, 1) := by decide +kernel
theorem dL_law_625 : decode cL_law 625 = .ok (.ireturn, 1) := by decide +kernel
theorem dL_law_626 : decode cL_law 626 = .ok (.aload_n 1, 1) := by decide +kernel
theorem dL_law_627 : decode cL_law 627 = .ok (.invokevirtual 92, 3) := by decide +kernel
theorem dL_law_630 : decode cL_law 630 = .ok (.aload_n 2, 1) := by decide +kernel
theorem dL_law_631 : decode cL_law 631 = .ok (.invokevirtual 95, 3) := by decide +kernel
theorem dL_law_634 : decode cL_law 634 = .ok (.if_icmp .eq 51, 3) := by decide +kernel
theorem dL_law_637 : decode cL_law 637 = .ok (.iconst 0, 1) := by decide +kernel
theorem dL_law_638 : decode cL_law 638 = .ok (.ireturn, 1) := by decide +kernel
theorem dL_law_639 : decode cL_law 639 = .ok (.aload_n 1, 1) := by decide +kernel
theorem dL_law_640 : decode cL_law 640 = .ok (.aload_n 0, 1) := by decide +kernel
theorem dL_law_641 : decode cL_law 641 = .ok (.iload_n 3, 1) := by decide +kernel
theorem dL_law_642 : decode cL_law 642 = .ok (.iconst 1, 1) := by decide +kernel
theorem dL_law_643 : decode cL_law 643 = .ok (.iadd, 1) := by decide +kernel
theorem dL_law_644 : decode cL_law 644 = .ok (.iaload, 1) := by decide +kernel
theorem dL_law_645 : decode cL_law 645 = .ok (.invokevirtual 96, 3) := by decide +kernel
theorem dL_law_648 : decode cL_law 648 = .ok (.aload_n 2, 1) := by decide +kernel
theorem dL_law_649 : decode cL_law 649 = .ok (.aload_n 0, 1) := by decide +kernel
theorem dL_law_650 : decode cL_law 650 = .ok (.iload_n 3, 1) := by decide +kernel
theorem dL_law_651 : decode cL_law 651 = .ok (.iconst 1, 1) := by decide +kernel
theorem dL_law_652 : decode cL_law 652 = .ok (.iadd, 1) := by decide +kernel
theorem dL_law_653 : decode cL_law 653 = .ok (.iaload, 1) := by decide +kernel
theorem dL_law_654 : decode cL_law 654 = .ok (.invokevirtual 99, 3) := by decide +kernel
theorem dL_law_657 : decode cL_law 657 = .ok (.if_icmp .eq 28, 3) := by decide +kernel
theorem dL_law_660 : decode cL_law 660 = .ok (.iconst 0, 1) := by decide +kernel
theorem dL_law_661 : decode cL_law 661 = .ok (.ireturn, 1) := by decide +kernel
theorem dL_law_662 : decode cL_law 662 = .ok (.aload_n 1, 1) := by decide +kernel
theorem dL_law_663 : decode cL_law 663 = .ok (.aload_n 0, 1) := by decide +kernel
theorem dL_law_664 : decode cL_law 664 = .ok (.iload_n 3, 1) := by decide +kernel
theorem dL_law_665 : decode cL_law 665 = .ok (.iconst 1, 1) := by decide +kernel
theorem dL_law_666 : decode cL_law 666 = .ok (.iadd, 1) := by decide +kernel
theorem dL_law_667 : decode cL_law 667 = .ok (.iaload, 1) := by decide +kernel
theorem dL_law_668 : decode cL_law 668 = .ok (.invokevirtual 100, 3) := by decide +kernel
theorem dL_law_671 : decode cL_law 671 = .ok (.aload_n 2, 1) := by decide +kernel
theorem dL_law_672 : decode cL_law 672 = .ok (.aload_n 0, 1) := by decide +kernel
theorem dL_law_673 : decode cL_law 673 = .ok (.iload_n 3, 1) := by decide +kernel
theorem dL_law_674 : decode cL_law 674 = .ok (.iconst 1, 1) := by decide +kernel
theorem dL_law_675 : decode cL_law 675 = .ok (.iadd, 1) := by decide +kernel
theorem dL_law_676 : decode cL_law 676 = .ok (.iaload, 1) := by decide +kernel
theorem dL_law_677 : decode cL_law 677 = .ok (.invokevirtual 103, 3) := by decide +kernel
theorem dL_law_680 : decode cL_law 680 = .ok (.if_icmp .eq 5, 3) := by decide +kernel
theorem dL_law_683 : decode cL_law 683 = .ok (.iconst 0, 1) := by decide +kernel
theorem dL_law_684 : decode cL_law 684 = .ok (.ireturn, 1) := by decide +kernel
theorem dL_law_685 : decode cL_law 685 = .ok (.iinc 3 4, 3) := by decide +kernel
theorem dL_law_688 : decode cL_law 688 = .ok (.goto (-670), 3) := by decide +kernel
theorem dL_law_691 : decode cL_law 691 = .ok (.iconst 1, 1) := by decide +kernel
theorem dL_law_692 : decode cL_law 692 = .ok (.ireturn, 1) := by decide +kernel
abbrev vwCl : List vw_C := [(RX0, TX0, 12), (RX1, TX1, 3), (RX2, TX2, 9), (RX3, TX3, 4), (RX4, TX4, 5), (RX5, TX5, 13)]
end
section
def lw_g : List Cond := lw_tbl.filter goodWord
theorem q_g {w : Cond} (h : w ∈ lw_tbl) (hg : goodWord w = true) : w ∈ lw_g := List.mem_filter.mpr ⟨h, hg⟩
theorem q_t1 {w : Cond} (h : w ∈ tables_1_1) : w ∈ lw_tbl := List.mem_append_right _ (List.mem_append_left _ h)
theorem q_t2 {w : Cond} (h : w ∈ tables_1_2) : w ∈ lw_tbl := List.mem_append_right _ (List.mem_append_right _ (List.mem_append_left _ h))
theorem q_t3 {w : Cond} (h : w ∈ tables_1_3) : w ∈ lw_tbl := List.mem_append_right _ (List.mem_append_right _ (List.mem_append_right _ (List.mem_append_left _ h)))
theorem q_t4 {w : Cond} (h : w ∈ tables_1_4) : w ∈ lw_tbl := List.mem_append_right _ (List.mem_append_right _ (List.mem_append_right _ (List.mem_append_right _ h)))
theorem q_i_L : Cond.initialized RL ∈ lw_g := q_g (q_t1 (List.mem_of_getElem? (i := 0) (by rfl))) (by rfl)
theorem q_i_X4 : Cond.initialized RX4 ∈ lw_g := q_g (q_t1 (List.mem_of_getElem? (i := 1) (by rfl))) (by rfl)
theorem q_i_X2 : Cond.initialized RX2 ∈ lw_g := q_g (q_t1 (List.mem_of_getElem? (i := 2) (by rfl))) (by rfl)
theorem q_i_X1 : Cond.initialized RX1 ∈ lw_g := q_g (q_t1 (List.mem_of_getElem? (i := 3) (by rfl))) (by rfl)
theorem q_i_X0 : Cond.initialized RX0 ∈ lw_g := q_g (q_t1 (List.mem_of_getElem? (i := 4) (by rfl))) (by rfl)
theorem q_i_X3 : Cond.initialized RX3 ∈ lw_g := q_g (q_t1 (List.mem_of_getElem? (i := 5) (by rfl))) (by rfl)
theorem q_i_J7 : Cond.initialized "java/util/Arrays" ∈ lw_g := q_g (q_t1 (List.mem_of_getElem? (i := 6) (by rfl))) (by rfl)
theorem q_i_X5 : Cond.initialized RX5 ∈ lw_g := q_g (q_t1 (List.mem_of_getElem? (i := 7) (by rfl))) (by rfl)
theorem q_i_J10 : Cond.initialized "java/lang/System" ∈ lw_g := q_g (q_t1 (List.mem_of_getElem? (i := 8) (by rfl))) (by rfl)
theorem q_i_J9 : Cond.initialized "java/lang/Math" ∈ lw_g := q_g (q_t1 (List.mem_of_getElem? (i := 9) (by rfl))) (by rfl)
theorem q_l_L_7 : Cond.classLink RL 7 RX4 ∈ lw_g := q_g (q_t1 (List.mem_of_getElem? (i := 10) (by rfl))) (by rfl)
theorem q_o_X4 : Cond.instantiable RX4 5 ∈ lw_g := q_g (q_t1 (List.mem_of_getElem? (i := 11) (by rfl))) (by rfl)
theorem q_m_L_9 : Cond.methodLink RL 9 yX4_init ∈ lw_g := q_g (q_t1 (List.mem_of_getElem? (i := 12) (by rfl))) (by rfl)
theorem q_i_yX4_init : Cond.instanceMethod yX4_init ∈ lw_g := q_g (q_t1 (List.mem_of_getElem? (i := 13) (by rfl))) (by rfl)
theorem q_c_yX4_init : Cond.code yX4_init cX4_init 1 none ∈ lw_g := q_g (q_t1 (List.mem_of_getElem? (i := 14) (by rfl))) (by rfl)
theorem q_m_X4_3 : Cond.methodLink RX4 3 objectInit ∈ lw_g := q_g (q_t1 (List.mem_of_getElem? (i := 15) (by rfl))) (by rfl)
theorem q_i_objectInit : Cond.instanceMethod objectInit ∈ lw_g := q_g (q_t1 (List.mem_of_getElem? (i := 16) (by rfl))) (by rfl)
theorem q_c_objectInit : Cond.code objectInit ⟨#[0xb1]⟩ 1 none ∈ lw_g := q_g (q_t1 (List.mem_of_getElem? (i := 17) (by rfl))) (by rfl)
theorem q_l_X4_9 : Cond.classLink RX4 9 RX2 ∈ lw_g := q_g (q_t1 (List.mem_of_getElem? (i := 18) (by rfl))) (by rfl)
theorem q_o_X2 : Cond.instantiable RX2 9 ∈ lw_g := q_g (q_t1 (List.mem_of_getElem? (i := 19) (by rfl))) (by rfl)
theorem q_n_X4_11 : Cond.methodLinkNest RX4 11 yX2_init RX4 ∈ lw_tbl := q_t1 (List.mem_of_getElem? (i := 20) (by rfl))
theorem q_i_yX2_init : Cond.instanceMethod yX2_init ∈ lw_g := q_g (q_t1 (List.mem_of_getElem? (i := 21) (by rfl))) (by rfl)
theorem q_c_yX2_init : Cond.code yX2_init cX2_init 1 none ∈ lw_g := q_g (q_t1 (List.mem_of_getElem? (i := 22) (by rfl))) (by rfl)
theorem q_m_X2_3 : Cond.methodLink RX2 3 objectInit ∈ lw_g := q_g (q_t1 (List.mem_of_getElem? (i := 23) (by rfl))) (by rfl)
theorem q_f_X2_9 : Cond.fieldLink RX2 9 "OverflowRows$Pad" "signs" "[I" ∈ lw_g := q_g (q_t1 (List.mem_of_getElem? (i := 24) (by rfl))) (by rfl)
theorem q_f_X4_87 : Cond.fieldLink RX4 87 "OverflowRows$Pad" "signs" "[I" ∈ lw_g := q_g (q_t1 (List.mem_of_getElem? (i := 25) (by rfl))) (by rfl)
theorem q_f_X2_15 : Cond.fieldLink RX2 15 "OverflowRows$Pad" "length" "I" ∈ lw_g := q_g (q_t1 (List.mem_of_getElem? (i := 26) (by rfl))) (by rfl)
theorem q_f_X4_66 : Cond.fieldLink RX4 66 "OverflowRows$Pad" "length" "I" ∈ lw_g := q_g (q_t1 (List.mem_of_getElem? (i := 27) (by rfl))) (by rfl)
theorem q_f_X2_19 : Cond.fieldLink RX2 19 "OverflowRows$Pad" "rows" "I" ∈ lw_g := q_g (q_t1 (List.mem_of_getElem? (i := 28) (by rfl))) (by rfl)
theorem q_f_X4_59 : Cond.fieldLink RX4 59 "OverflowRows$Pad" "rows" "I" ∈ lw_g := q_g (q_t1 (List.mem_of_getElem? (i := 29) (by rfl))) (by rfl)
theorem q_f_X2_22 : Cond.fieldLink RX2 22 "OverflowRows$Pad" "keyOf" "[I" ∈ lw_g := q_g (q_t1 (List.mem_of_getElem? (i := 30) (by rfl))) (by rfl)
theorem q_f_X4_76 : Cond.fieldLink RX4 76 "OverflowRows$Pad" "keyOf" "[I" ∈ lw_g := q_g (q_t1 (List.mem_of_getElem? (i := 31) (by rfl))) (by rfl)
theorem q_f_X2_25 : Cond.fieldLink RX2 25 "OverflowRows$Pad" "textOf" "[I" ∈ lw_g := q_g (q_t1 (List.mem_of_getElem? (i := 32) (by rfl))) (by rfl)
theorem q_f_X4_90 : Cond.fieldLink RX4 90 "OverflowRows$Pad" "textOf" "[I" ∈ lw_g := q_g (q_t1 (List.mem_of_getElem? (i := 33) (by rfl))) (by rfl)
theorem q_f_X2_28 : Cond.fieldLink RX2 28 "OverflowRows$Pad" "lettersOf" "[I" ∈ lw_g := q_g (q_t1 (List.mem_of_getElem? (i := 34) (by rfl))) (by rfl)
theorem q_f_X4_69 : Cond.fieldLink RX4 69 "OverflowRows$Pad" "lettersOf" "[I" ∈ lw_g := q_g (q_t1 (List.mem_of_getElem? (i := 35) (by rfl))) (by rfl)
theorem q_f_X2_31 : Cond.fieldLink RX2 31 "OverflowRows$Pad" "inText" "Z" ∈ lw_g := q_g (q_t1 (List.mem_of_getElem? (i := 36) (by rfl))) (by rfl)
theorem q_f_X2_35 : Cond.fieldLink RX2 35 "OverflowRows$Pad" "digits" "I" ∈ lw_g := q_g (q_t1 (List.mem_of_getElem? (i := 37) (by rfl))) (by rfl)
theorem q_f_X2_38 : Cond.fieldLink RX2 38 "OverflowRows$Pad" "number" "I" ∈ lw_g := q_g (q_t1 (List.mem_of_getElem? (i := 38) (by rfl))) (by rfl)
theorem q_a_int : Cond.arrayClass .int ∈ lw_g := q_g (q_t1 (List.mem_of_getElem? (i := 58) (by rfl))) (by rfl)
theorem q_l_X4_16 : Cond.classLink RX4 16 RX1 ∈ lw_g := q_g (q_t1 (List.mem_of_getElem? (i := 59) (by rfl))) (by rfl)
theorem q_o_X1 : Cond.instantiable RX1 3 ∈ lw_g := q_g (q_t1 (List.mem_of_getElem? (i := 60) (by rfl))) (by rfl)
theorem q_n_X4_18 : Cond.methodLinkNest RX4 18 yX1_init RX4 ∈ lw_tbl := q_t1 (List.mem_of_getElem? (i := 61) (by rfl))
theorem q_i_yX1_init : Cond.instanceMethod yX1_init ∈ lw_g := q_g (q_t1 (List.mem_of_getElem? (i := 62) (by rfl))) (by rfl)
theorem q_c_yX1_init : Cond.code yX1_init cX1_init 1 none ∈ lw_g := q_g (q_t1 (List.mem_of_getElem? (i := 63) (by rfl))) (by rfl)
theorem q_m_X1_3 : Cond.methodLink RX1 3 objectInit ∈ lw_g := q_g (q_t1 (List.mem_of_getElem? (i := 64) (by rfl))) (by rfl)
theorem q_l_X1_9 : Cond.classLink RX1 9 RX0 ∈ lw_g := q_g (q_t1 (List.mem_of_getElem? (i := 65) (by rfl))) (by rfl)
-- (Jvm.Cond.arrayOver (Jvm.ClassFile.FieldType.object "OverflowRows$Book"))
theorem q_v_66 : (Cond.arrayOver (Jvm.ClassFile.FieldType.object "OverflowRows$Book")) ∈ lw_tbl := q_t1 (List.mem_of_getElem? (i := 66) (by rfl))
theorem q_f_X1_11 : Cond.fieldLink RX1 11 "OverflowRows$History" "states" "[LOverflowRows$Book;" ∈ lw_g := q_g (q_t1 (List.mem_of_getElem? (i := 67) (by rfl))) (by rfl)
theorem q_f_X1_17 : Cond.fieldLink RX1 17 "OverflowRows$History" "held" "I" ∈ lw_g := q_g (q_t1 (List.mem_of_getElem? (i := 68) (by rfl))) (by rfl)
theorem q_f_X4_175 : Cond.fieldLink RX4 175 "OverflowRows$History" "held" "I" ∈ lw_g := q_g (q_t1 (List.mem_of_getElem? (i := 69) (by rfl))) (by rfl)
theorem q_f_X1_21 : Cond.fieldLink RX1 21 "OverflowRows$History" "oldest" "I" ∈ lw_g := q_g (q_t1 (List.mem_of_getElem? (i := 70) (by rfl))) (by rfl)
theorem q_l_X4_23 : Cond.classLink RX4 23 RX0 ∈ lw_g := q_g (q_t1 (List.mem_of_getElem? (i := 78) (by rfl))) (by rfl)
theorem q_o_X0 : Cond.instantiable RX0 12 ∈ lw_g := q_g (q_t1 (List.mem_of_getElem? (i := 79) (by rfl))) (by rfl)
theorem q_m_X4_29 : Cond.methodLink RX4 29 yX0_init ∈ lw_g := q_g (q_t1 (List.mem_of_getElem? (i := 80) (by rfl))) (by rfl)
theorem q_i_yX0_init : Cond.instanceMethod yX0_init ∈ lw_g := q_g (q_t1 (List.mem_of_getElem? (i := 81) (by rfl))) (by rfl)
theorem q_c_yX0_init : Cond.code yX0_init cX0_init 1 none ∈ lw_g := q_g (q_t1 (List.mem_of_getElem? (i := 82) (by rfl))) (by rfl)
theorem q_m_X0_3 : Cond.methodLink RX0 3 objectInit ∈ lw_g := q_g (q_t1 (List.mem_of_getElem? (i := 83) (by rfl))) (by rfl)
theorem q_l_X0_21 : Cond.classLink RX0 21 RX3 ∈ lw_g := q_g (q_t1 (List.mem_of_getElem? (i := 84) (by rfl))) (by rfl)
theorem q_o_X3 : Cond.instantiable RX3 4 ∈ lw_g := q_g (q_t1 (List.mem_of_getElem? (i := 85) (by rfl))) (by rfl)
theorem q_m_X0_23 : Cond.methodLink RX0 23 yX3_init ∈ lw_g := q_g (q_t1 (List.mem_of_getElem? (i := 86) (by rfl))) (by rfl)
theorem q_i_yX3_init : Cond.instanceMethod yX3_init ∈ lw_g := q_g (q_t1 (List.mem_of_getElem? (i := 87) (by rfl))) (by rfl)
theorem q_c_yX3_init : Cond.code yX3_init cX3_init 1 none ∈ lw_g := q_g (q_t1 (List.mem_of_getElem? (i := 88) (by rfl))) (by rfl)
theorem q_m_X3_3 : Cond.methodLink RX3 3 objectInit ∈ lw_g := q_g (q_t1 (List.mem_of_getElem? (i := 89) (by rfl))) (by rfl)
theorem q_m_X3_24 : Cond.methodLink RX3 24 yJ7_fill_53178 ∈ lw_g := q_g (q_t1 (List.mem_of_getElem? (i := 90) (by rfl))) (by rfl)
theorem q_s_yJ7_fill_53178 : Cond.static yJ7_fill_53178 ∈ lw_g := q_g (q_t1 (List.mem_of_getElem? (i := 91) (by rfl))) (by rfl)
theorem q_c_yJ7_fill_53178 : Cond.code yJ7_fill_53178 cJ7_fill_53178 4 none ∈ lw_g := q_g (q_t1 (List.mem_of_getElem? (i := 92) (by rfl))) (by rfl)
theorem q_f_X3_9 : Cond.fieldLink RX3 9 "OverflowRows$Pages" "kind" "[I" ∈ lw_g := q_g (q_t1 (List.mem_of_getElem? (i := 93) (by rfl))) (by rfl)
theorem q_f_X4_153 : Cond.fieldLink RX4 153 "OverflowRows$Pages" "kind" "[I" ∈ lw_g := q_g (q_t1 (List.mem_of_getElem? (i := 94) (by rfl))) (by rfl)
theorem q_f_X3_15 : Cond.fieldLink RX3 15 "OverflowRows$Pages" "owner" "[I" ∈ lw_g := q_g (q_t1 (List.mem_of_getElem? (i := 95) (by rfl))) (by rfl)
theorem q_f_X4_156 : Cond.fieldLink RX4 156 "OverflowRows$Pages" "owner" "[I" ∈ lw_g := q_g (q_t1 (List.mem_of_getElem? (i := 96) (by rfl))) (by rfl)
theorem q_f_X3_18 : Cond.fieldLink RX3 18 "OverflowRows$Pages" "cells" "[I" ∈ lw_g := q_g (q_t1 (List.mem_of_getElem? (i := 97) (by rfl))) (by rfl)
theorem q_f_X4_132 : Cond.fieldLink RX4 132 "OverflowRows$Pages" "cells" "[I" ∈ lw_g := q_g (q_t1 (List.mem_of_getElem? (i := 98) (by rfl))) (by rfl)
theorem q_f_X0_128 : Cond.fieldLink RX0 128 "OverflowRows$Pages" "cells" "[I" ∈ lw_g := q_g (q_t1 (List.mem_of_getElem? (i := 99) (by rfl))) (by rfl)
theorem q_f_X3_21 : Cond.fieldLink RX3 21 "OverflowRows$Pages" "free" "[I" ∈ lw_g := q_g (q_t1 (List.mem_of_getElem? (i := 100) (by rfl))) (by rfl)
theorem q_f_X4_144 : Cond.fieldLink RX4 144 "OverflowRows$Pages" "free" "[I" ∈ lw_g := q_g (q_t1 (List.mem_of_getElem? (i := 101) (by rfl))) (by rfl)
theorem q_l_X0_47 : Cond.classLink RX0 47 "[[I" ∈ lw_g := q_g (q_t1 (List.mem_of_getElem? (i := 111) (by rfl))) (by rfl)
-- (Jvm.Cond.arrayOver (Jvm.ClassFile.FieldType.array Jvm.ClassFile.FieldType.int))
theorem q_v_112 : (Cond.arrayOver (Jvm.ClassFile.FieldType.array Jvm.ClassFile.FieldType.int)) ∈ lw_tbl := q_t1 (List.mem_of_getElem? (i := 112) (by rfl))
theorem q_m_X0_55 : Cond.methodLink RX0 55 yJ7_fill_53178 ∈ lw_g := q_g (q_t1 (List.mem_of_getElem? (i := 113) (by rfl))) (by rfl)
theorem q_f_X0_9 : Cond.fieldLink RX0 9 "OverflowRows$Book" "headMost" "I" ∈ lw_g := q_g (q_t1 (List.mem_of_getElem? (i := 114) (by rfl))) (by rfl)
theorem q_f_X4_48 : Cond.fieldLink RX4 48 "OverflowRows$Book" "headMost" "I" ∈ lw_g := q_g (q_t1 (List.mem_of_getElem? (i := 115) (by rfl))) (by rfl)
theorem q_f_X0_15 : Cond.fieldLink RX0 15 "OverflowRows$Book" "pieceMost" "I" ∈ lw_g := q_g (q_t1 (List.mem_of_getElem? (i := 116) (by rfl))) (by rfl)
theorem q_f_X4_52 : Cond.fieldLink RX4 52 "OverflowRows$Book" "pieceMost" "I" ∈ lw_g := q_g (q_t1 (List.mem_of_getElem? (i := 117) (by rfl))) (by rfl)
theorem q_f_X0_18 : Cond.fieldLink RX0 18 "OverflowRows$Book" "rows" "I" ∈ lw_g := q_g (q_t1 (List.mem_of_getElem? (i := 118) (by rfl))) (by rfl)
theorem q_f_X4_159 : Cond.fieldLink RX4 159 "OverflowRows$Book" "rows" "I" ∈ lw_g := q_g (q_t1 (List.mem_of_getElem? (i := 119) (by rfl))) (by rfl)
theorem q_f_X0_24 : Cond.fieldLink RX0 24 "OverflowRows$Book" "pages" "LOverflowRows$Pages;" ∈ lw_g := q_g (q_t1 (List.mem_of_getElem? (i := 120) (by rfl))) (by rfl)
theorem q_f_X4_110 : Cond.fieldLink RX4 110 "OverflowRows$Book" "pages" "LOverflowRows$Pages;" ∈ lw_g := q_g (q_t1 (List.mem_of_getElem? (i := 121) (by rfl))) (by rfl)
theorem q_f_X0_28 : Cond.fieldLink RX0 28 "OverflowRows$Book" "numberOf" "[I" ∈ lw_g := q_g (q_t1 (List.mem_of_getElem? (i := 122) (by rfl))) (by rfl)
theorem q_f_X0_32 : Cond.fieldLink RX0 32 "OverflowRows$Book" "keyOf" "[I" ∈ lw_g := q_g (q_t1 (List.mem_of_getElem? (i := 123) (by rfl))) (by rfl)
theorem q_f_X0_35 : Cond.fieldLink RX0 35 "OverflowRows$Book" "lettersOf" "[I" ∈ lw_g := q_g (q_t1 (List.mem_of_getElem? (i := 124) (by rfl))) (by rfl)
theorem q_f_X4_99 : Cond.fieldLink RX4 99 "OverflowRows$Book" "lettersOf" "[I" ∈ lw_g := q_g (q_t1 (List.mem_of_getElem? (i := 125) (by rfl))) (by rfl)
theorem q_f_X0_38 : Cond.fieldLink RX0 38 "OverflowRows$Book" "homeOf" "[I" ∈ lw_g := q_g (q_t1 (List.mem_of_getElem? (i := 126) (by rfl))) (by rfl)
theorem q_f_X4_123 : Cond.fieldLink RX4 123 "OverflowRows$Book" "homeOf" "[I" ∈ lw_g := q_g (q_t1 (List.mem_of_getElem? (i := 127) (by rfl))) (by rfl)
theorem q_f_X0_41 : Cond.fieldLink RX0 41 "OverflowRows$Book" "headOf" "[I" ∈ lw_g := q_g (q_t1 (List.mem_of_getElem? (i := 128) (by rfl))) (by rfl)
theorem q_f_X4_126 : Cond.fieldLink RX4 126 "OverflowRows$Book" "headOf" "[I" ∈ lw_g := q_g (q_t1 (List.mem_of_getElem? (i := 129) (by rfl))) (by rfl)
theorem q_f_X0_44 : Cond.fieldLink RX0 44 "OverflowRows$Book" "piecesOf" "[I" ∈ lw_g := q_g (q_t1 (List.mem_of_getElem? (i := 130) (by rfl))) (by rfl)
theorem q_f_X4_135 : Cond.fieldLink RX4 135 "OverflowRows$Book" "piecesOf" "[I" ∈ lw_g := q_g (q_t1 (List.mem_of_getElem? (i := 131) (by rfl))) (by rfl)
theorem q_f_X0_49 : Cond.fieldLink RX0 49 "OverflowRows$Book" "pieceOf" "[[I" ∈ lw_g := q_g (q_t1 (List.mem_of_getElem? (i := 132) (by rfl))) (by rfl)
theorem q_f_X4_141 : Cond.fieldLink RX4 141 "OverflowRows$Book" "pieceOf" "[[I" ∈ lw_g := q_g (q_t1 (List.mem_of_getElem? (i := 133) (by rfl))) (by rfl)
theorem q_f_X0_52 : Cond.fieldLink RX0 52 "OverflowRows$Book" "text" "[[I" ∈ lw_g := q_g (q_t1 (List.mem_of_getElem? (i := 134) (by rfl))) (by rfl)
theorem q_f_X4_83 : Cond.fieldLink RX4 83 "OverflowRows$Book" "text" "[[I" ∈ lw_g := q_g (q_t1 (List.mem_of_getElem? (i := 135) (by rfl))) (by rfl)
theorem q_f_X4_12 : Cond.fieldLink RX4 12 "OverflowRows" "pad" "LOverflowRows$Pad;" ∈ lw_g := q_g (q_t1 (List.mem_of_getElem? (i := 161) (by rfl))) (by rfl)
theorem q_f_X4_19 : Cond.fieldLink RX4 19 "OverflowRows" "history" "LOverflowRows$History;" ∈ lw_g := q_g (q_t1 (List.mem_of_getElem? (i := 162) (by rfl))) (by rfl)
theorem q_f_X4_25 : Cond.fieldLink RX4 25 "OverflowRows" "saved" "[LOverflowRows$Book;" ∈ lw_g := q_g (q_t1 (List.mem_of_getElem? (i := 163) (by rfl))) (by rfl)
theorem q_f_X4_30 : Cond.fieldLink RX4 30 "OverflowRows" "now" "LOverflowRows$Book;" ∈ lw_g := q_g (q_t1 (List.mem_of_getElem? (i := 164) (by rfl))) (by rfl)
theorem q_f_X4_34 : Cond.fieldLink RX4 34 "OverflowRows" "trial" "LOverflowRows$Book;" ∈ lw_g := q_g (q_t1 (List.mem_of_getElem? (i := 165) (by rfl))) (by rfl)
theorem q_m_L_13 : Cond.methodLink RL 13 yX4_set ∈ lw_g := q_g (q_t1 (List.mem_of_getElem? (i := 177) (by rfl))) (by rfl)
theorem q_i_yX4_set : Cond.instanceMethod yX4_set ∈ lw_g := q_g (q_t1 (List.mem_of_getElem? (i := 178) (by rfl))) (by rfl)
theorem q_x_yX4_set : Cond.selects RX4 yX4_set yX4_set ∈ lw_g := q_g (q_t1 (List.mem_of_getElem? (i := 179) (by rfl))) (by rfl)
theorem q_c_yX4_set : Cond.code yX4_set cX4_set 3 (some .int) ∈ lw_g := q_g (q_t1 (List.mem_of_getElem? (i := 180) (by rfl))) (by rfl)
theorem q_m_X4_37 : Cond.methodLink RX4 37 yX4_setHead ∈ lw_g := q_g (q_t1 (List.mem_of_getElem? (i := 181) (by rfl))) (by rfl)
theorem q_i_yX4_setHead : Cond.instanceMethod yX4_setHead ∈ lw_g := q_g (q_t1 (List.mem_of_getElem? (i := 183) (by rfl))) (by rfl)
theorem q_c_yX4_setHead : Cond.code yX4_setHead cX4_setHead 3 (some .int) ∈ lw_g := q_g (q_t1 (List.mem_of_getElem? (i := 184) (by rfl))) (by rfl)
theorem q_m_X4_44 : Cond.methodLink RX4 44 yX1_record ∈ lw_g := q_g (q_t1 (List.mem_of_getElem? (i := 185) (by rfl))) (by rfl)
theorem q_i_yX1_record : Cond.instanceMethod yX1_record ∈ lw_g := q_g (q_t1 (List.mem_of_getElem? (i := 186) (by rfl))) (by rfl)
theorem q_x_yX1_record : Cond.selects RX1 yX1_record yX1_record ∈ lw_g := q_g (q_t1 (List.mem_of_getElem? (i := 187) (by rfl))) (by rfl)
theorem q_c_yX1_record : Cond.code yX1_record cX1_record 3 none ∈ lw_g := q_g (q_t1 (List.mem_of_getElem? (i := 188) (by rfl))) (by rfl)
theorem q_m_X1_24 : Cond.methodLink RX1 24 yX0_init ∈ lw_g := q_g (q_t1 (List.mem_of_getElem? (i := 189) (by rfl))) (by rfl)
theorem q_m_X1_25 : Cond.methodLink RX1 25 yX0_copyFrom ∈ lw_g := q_g (q_t1 (List.mem_of_getElem? (i := 190) (by rfl))) (by rfl)
theorem q_i_yX0_copyFrom : Cond.instanceMethod yX0_copyFrom ∈ lw_g := q_g (q_t1 (List.mem_of_getElem? (i := 191) (by rfl))) (by rfl)
theorem q_x_yX0_copyFrom : Cond.selects RX0 yX0_copyFrom yX0_copyFrom ∈ lw_g := q_g (q_t1 (List.mem_of_getElem? (i := 192) (by rfl))) (by rfl)
theorem q_c_yX0_copyFrom : Cond.code yX0_copyFrom cX0_copyFrom 3 none ∈ lw_g := q_g (q_t1 (List.mem_of_getElem? (i := 193) (by rfl))) (by rfl)
theorem q_m_X0_61 : Cond.methodLink RX0 61 yX3_copyFrom ∈ lw_g := q_g (q_t1 (List.mem_of_getElem? (i := 194) (by rfl))) (by rfl)
theorem q_i_yX3_copyFrom : Cond.instanceMethod yX3_copyFrom ∈ lw_g := q_g (q_t1 (List.mem_of_getElem? (i := 195) (by rfl))) (by rfl)
theorem q_x_yX3_copyFrom : Cond.selects RX3 yX3_copyFrom yX3_copyFrom ∈ lw_g := q_g (q_t1 (List.mem_of_getElem? (i := 196) (by rfl))) (by rfl)
theorem q_c_yX3_copyFrom : Cond.code yX3_copyFrom cX3_copyFrom 2 none ∈ lw_g := q_g (q_t1 (List.mem_of_getElem? (i := 197) (by rfl))) (by rfl)
theorem q_m_X3_30 : Cond.methodLink RX3 30 arraycopyName ∈ lw_g := q_g (q_t1 (List.mem_of_getElem? (i := 198) (by rfl))) (by rfl)
theorem q_s_arraycopyName : Cond.static arraycopyName ∈ lw_g := q_g (q_t1 (List.mem_of_getElem? (i := 199) (by rfl))) (by rfl)
theorem q_n_arraycopyName : Cond.native arraycopyName ∈ lw_g := q_g (q_t1 (List.mem_of_getElem? (i := 200) (by rfl))) (by rfl)
theorem q_m_X0_65 : Cond.methodLink RX0 65 arraycopyName ∈ lw_g := q_g (q_t1 (List.mem_of_getElem? (i := 201) (by rfl))) (by rfl)
theorem q_m_X4_41 : Cond.methodLink RX4 41 yX4_setPiece ∈ lw_g := q_g (q_t1 (List.mem_of_getElem? (i := 202) (by rfl))) (by rfl)
theorem q_i_yX4_setPiece : Cond.instanceMethod yX4_setPiece ∈ lw_g := q_g (q_t1 (List.mem_of_getElem? (i := 204) (by rfl))) (by rfl)
theorem q_c_yX4_setPiece : Cond.code yX4_setPiece cX4_setPiece 3 (some .int) ∈ lw_g := q_g (q_t1 (List.mem_of_getElem? (i := 205) (by rfl))) (by rfl)
theorem q_m_L_18 : Cond.methodLink RL 18 yX4_write ∈ lw_g := q_g (q_t1 (List.mem_of_getElem? (i := 206) (by rfl))) (by rfl)
theorem q_i_yX4_write : Cond.instanceMethod yX4_write ∈ lw_g := q_g (q_t1 (List.mem_of_getElem? (i := 207) (by rfl))) (by rfl)
theorem q_x_yX4_write : Cond.selects RX4 yX4_write yX4_write ∈ lw_g := q_g (q_t1 (List.mem_of_getElem? (i := 208) (by rfl))) (by rfl)
theorem q_c_yX4_write : Cond.code yX4_write cX4_write 2 (some .int) ∈ lw_g := q_g (q_t1 (List.mem_of_getElem? (i := 209) (by rfl))) (by rfl)
theorem q_m_X4_55 : Cond.methodLink RX4 55 yX2_read ∈ lw_g := q_g (q_t1 (List.mem_of_getElem? (i := 210) (by rfl))) (by rfl)
theorem q_i_yX2_read : Cond.instanceMethod yX2_read ∈ lw_g := q_g (q_t1 (List.mem_of_getElem? (i := 211) (by rfl))) (by rfl)
theorem q_x_yX2_read : Cond.selects RX2 yX2_read yX2_read ∈ lw_g := q_g (q_t1 (List.mem_of_getElem? (i := 212) (by rfl))) (by rfl)
theorem q_c_yX2_read : Cond.code yX2_read cX2_read 3 (some .int) ∈ lw_g := q_g (q_t1 (List.mem_of_getElem? (i := 213) (by rfl))) (by rfl)
theorem q_m_X2_41 : Cond.methodLink RX2 41 yX2_awaitKey ∈ lw_g := q_g (q_t1 (List.mem_of_getElem? (i := 214) (by rfl))) (by rfl)
theorem q_i_yX2_awaitKey : Cond.instanceMethod yX2_awaitKey ∈ lw_g := q_g (q_t1 (List.mem_of_getElem? (i := 216) (by rfl))) (by rfl)
theorem q_c_yX2_awaitKey : Cond.code yX2_awaitKey cX2_awaitKey 1 none ∈ lw_g := q_g (q_t1 (List.mem_of_getElem? (i := 217) (by rfl))) (by rfl)
theorem q_m_X2_44 : Cond.methodLink RX2 44 yX2_readInText ∈ lw_g := q_g (q_t1 (List.mem_of_getElem? (i := 218) (by rfl))) (by rfl)
theorem q_i_yX2_readInText : Cond.instanceMethod yX2_readInText ∈ lw_g := q_g (q_t1 (List.mem_of_getElem? (i := 220) (by rfl))) (by rfl)
theorem q_c_yX2_readInText : Cond.code yX2_readInText cX2_readInText 3 (some .boolean) ∈ lw_g := q_g (q_t1 (List.mem_of_getElem? (i := 221) (by rfl))) (by rfl)
theorem q_m_X2_48 : Cond.methodLink RX2 48 yX2_readInKey ∈ lw_g := q_g (q_t1 (List.mem_of_getElem? (i := 222) (by rfl))) (by rfl)
theorem q_i_yX2_readInKey : Cond.instanceMethod yX2_readInKey ∈ lw_g := q_g (q_t1 (List.mem_of_getElem? (i := 224) (by rfl))) (by rfl)
theorem q_c_yX2_readInKey : Cond.code yX2_readInKey cX2_readInKey 4 (some .boolean) ∈ lw_g := q_g (q_t1 (List.mem_of_getElem? (i := 225) (by rfl))) (by rfl)
theorem q_m_X2_52 : Cond.methodLink RX2 52 yX2_startText ∈ lw_g := q_g (q_t1 (List.mem_of_getElem? (i := 226) (by rfl))) (by rfl)
theorem q_i_yX2_startText : Cond.instanceMethod yX2_startText ∈ lw_g := q_g (q_t1 (List.mem_of_getElem? (i := 228) (by rfl))) (by rfl)
theorem q_c_yX2_startText : Cond.code yX2_startText cX2_startText 2 (some .boolean) ∈ lw_g := q_g (q_t1 (List.mem_of_getElem? (i := 229) (by rfl))) (by rfl)
theorem q_m_X4_62 : Cond.methodLink RX4 62 yX4_writePadRow ∈ lw_g := q_g (q_t1 (List.mem_of_getElem? (i := 230) (by rfl))) (by rfl)
theorem q_i_yX4_writePadRow : Cond.instanceMethod yX4_writePadRow ∈ lw_g := q_g (q_t1 (List.mem_of_getElem? (i := 232) (by rfl))) (by rfl)
theorem q_c_yX4_writePadRow : Cond.code yX4_writePadRow cX4_writePadRow 5 (some .boolean) ∈ lw_g := q_g (q_t1 (List.mem_of_getElem? (i := 233) (by rfl))) (by rfl)
theorem q_m_X4_73 : Cond.methodLink RX4 73 yX0_copyFrom ∈ lw_g := q_g (q_t1 (List.mem_of_getElem? (i := 234) (by rfl))) (by rfl)
theorem q_m_X4_79 : Cond.methodLink RX4 79 yX0_layRow ∈ lw_g := q_g (q_t1 (List.mem_of_getElem? (i := 235) (by rfl))) (by rfl)
theorem q_i_yX0_layRow : Cond.instanceMethod yX0_layRow ∈ lw_g := q_g (q_t1 (List.mem_of_getElem? (i := 236) (by rfl))) (by rfl)
theorem q_x_yX0_layRow : Cond.selects RX0 yX0_layRow yX0_layRow ∈ lw_g := q_g (q_t1 (List.mem_of_getElem? (i := 237) (by rfl))) (by rfl)
theorem q_c_yX0_layRow : Cond.code yX0_layRow cX0_layRow 4 (some .int) ∈ lw_g := q_g (q_t1 (List.mem_of_getElem? (i := 238) (by rfl))) (by rfl)
theorem q_m_X0_71 : Cond.methodLink RX0 71 yX0_rowOf ∈ lw_g := q_g (q_t1 (List.mem_of_getElem? (i := 239) (by rfl))) (by rfl)
theorem q_i_yX0_rowOf : Cond.instanceMethod yX0_rowOf ∈ lw_g := q_g (q_t2 (List.mem_of_getElem? (i := 0) (by rfl))) (by rfl)
theorem q_x_yX0_rowOf : Cond.selects RX0 yX0_rowOf yX0_rowOf ∈ lw_g := q_g (q_t2 (List.mem_of_getElem? (i := 1) (by rfl))) (by rfl)
theorem q_c_yX0_rowOf : Cond.code yX0_rowOf cX0_rowOf 2 (some .int) ∈ lw_g := q_g (q_t2 (List.mem_of_getElem? (i := 2) (by rfl))) (by rfl)
theorem q_m_X0_75 : Cond.methodLink RX0 75 yX0_addRow ∈ lw_g := q_g (q_t2 (List.mem_of_getElem? (i := 3) (by rfl))) (by rfl)
theorem q_i_yX0_addRow : Cond.instanceMethod yX0_addRow ∈ lw_g := q_g (q_t2 (List.mem_of_getElem? (i := 5) (by rfl))) (by rfl)
theorem q_c_yX0_addRow : Cond.code yX0_addRow cX0_addRow 3 (some .int) ∈ lw_g := q_g (q_t2 (List.mem_of_getElem? (i := 6) (by rfl))) (by rfl)
theorem q_m_X0_78 : Cond.methodLink RX0 78 yX0_layNew ∈ lw_g := q_g (q_t2 (List.mem_of_getElem? (i := 7) (by rfl))) (by rfl)
theorem q_i_yX0_layNew : Cond.instanceMethod yX0_layNew ∈ lw_g := q_g (q_t2 (List.mem_of_getElem? (i := 9) (by rfl))) (by rfl)
theorem q_c_yX0_layNew : Cond.code yX0_layNew cX0_layNew 3 (some .boolean) ∈ lw_g := q_g (q_t2 (List.mem_of_getElem? (i := 10) (by rfl))) (by rfl)
theorem q_m_X0_85 : Cond.methodLink RX0 85 yX0_headCells ∈ lw_g := q_g (q_t2 (List.mem_of_getElem? (i := 11) (by rfl))) (by rfl)
theorem q_i_yX0_headCells : Cond.instanceMethod yX0_headCells ∈ lw_g := q_g (q_t2 (List.mem_of_getElem? (i := 13) (by rfl))) (by rfl)
theorem q_c_yX0_headCells : Cond.code yX0_headCells cX0_headCells 2 (some .int) ∈ lw_g := q_g (q_t2 (List.mem_of_getElem? (i := 14) (by rfl))) (by rfl)
theorem q_m_X0_113 : Cond.methodLink RX0 113 yX0_headLetters ∈ lw_g := q_g (q_t2 (List.mem_of_getElem? (i := 15) (by rfl))) (by rfl)
theorem q_i_yX0_headLetters : Cond.instanceMethod yX0_headLetters ∈ lw_g := q_g (q_t2 (List.mem_of_getElem? (i := 17) (by rfl))) (by rfl)
theorem q_c_yX0_headLetters : Cond.code yX0_headLetters cX0_headLetters 2 (some .int) ∈ lw_g := q_g (q_t2 (List.mem_of_getElem? (i := 18) (by rfl))) (by rfl)
theorem q_m_X0_116 : Cond.methodLink RX0 116 Lib.Math.min.name ∈ lw_g := q_g (q_t2 (List.mem_of_getElem? (i := 19) (by rfl))) (by rfl)
theorem q_s_Lib_Math_min_name : Cond.static Lib.Math.min.name ∈ lw_g := q_g (q_t2 (List.mem_of_getElem? (i := 20) (by rfl))) (by rfl)
theorem q_c_yJ9_min_7cf53 : Cond.code Lib.Math.min.name Lib.Math.min.code 2 (some .int) ∈ lw_g := q_g (q_t2 (List.mem_of_getElem? (i := 21) (by rfl))) (by rfl)
theorem q_m_X0_88 : Cond.methodLink RX0 88 yX3_place ∈ lw_g := q_g (q_t2 (List.mem_of_getElem? (i := 22) (by rfl))) (by rfl)
theorem q_i_yX3_place : Cond.instanceMethod yX3_place ∈ lw_g := q_g (q_t2 (List.mem_of_getElem? (i := 23) (by rfl))) (by rfl)
theorem q_x_yX3_place : Cond.selects RX3 yX3_place yX3_place ∈ lw_g := q_g (q_t2 (List.mem_of_getElem? (i := 24) (by rfl))) (by rfl)
theorem q_c_yX3_place : Cond.code yX3_place cX3_place 6 (some .int) ∈ lw_g := q_g (q_t2 (List.mem_of_getElem? (i := 25) (by rfl))) (by rfl)
theorem q_m_X3_36 : Cond.methodLink RX3 36 yX3_hasRoom ∈ lw_g := q_g (q_t2 (List.mem_of_getElem? (i := 26) (by rfl))) (by rfl)
theorem q_i_yX3_hasRoom : Cond.instanceMethod yX3_hasRoom ∈ lw_g := q_g (q_t2 (List.mem_of_getElem? (i := 27) (by rfl))) (by rfl)
theorem q_x_yX3_hasRoom : Cond.selects RX3 yX3_hasRoom yX3_hasRoom ∈ lw_g := q_g (q_t2 (List.mem_of_getElem? (i := 28) (by rfl))) (by rfl)
theorem q_c_yX3_hasRoom : Cond.code yX3_hasRoom cX3_hasRoom 3 (some .boolean) ∈ lw_g := q_g (q_t2 (List.mem_of_getElem? (i := 29) (by rfl))) (by rfl)
theorem q_m_X3_40 : Cond.methodLink RX3 40 yX3_lowestGap ∈ lw_g := q_g (q_t2 (List.mem_of_getElem? (i := 30) (by rfl))) (by rfl)
theorem q_i_yX3_lowestGap : Cond.instanceMethod yX3_lowestGap ∈ lw_g := q_g (q_t2 (List.mem_of_getElem? (i := 32) (by rfl))) (by rfl)
theorem q_c_yX3_lowestGap : Cond.code yX3_lowestGap cX3_lowestGap 4 (some .int) ∈ lw_g := q_g (q_t2 (List.mem_of_getElem? (i := 33) (by rfl))) (by rfl)
theorem q_m_X3_44 : Cond.methodLink RX3 44 yX3_occupy ∈ lw_g := q_g (q_t2 (List.mem_of_getElem? (i := 34) (by rfl))) (by rfl)
theorem q_i_yX3_occupy : Cond.instanceMethod yX3_occupy ∈ lw_g := q_g (q_t2 (List.mem_of_getElem? (i := 35) (by rfl))) (by rfl)
theorem q_x_yX3_occupy : Cond.selects RX3 yX3_occupy yX3_occupy ∈ lw_g := q_g (q_t2 (List.mem_of_getElem? (i := 36) (by rfl))) (by rfl)
theorem q_c_yX3_occupy : Cond.code yX3_occupy cX3_occupy 5 none ∈ lw_g := q_g (q_t2 (List.mem_of_getElem? (i := 37) (by rfl))) (by rfl)
theorem q_m_X0_92 : Cond.methodLink RX0 92 yX0_layPieces ∈ lw_g := q_g (q_t2 (List.mem_of_getElem? (i := 38) (by rfl))) (by rfl)
theorem q_i_yX0_layPieces : Cond.instanceMethod yX0_layPieces ∈ lw_g := q_g (q_t2 (List.mem_of_getElem? (i := 40) (by rfl))) (by rfl)
theorem q_c_yX0_layPieces : Cond.code yX0_layPieces cX0_layPieces 6 (some .boolean) ∈ lw_g := q_g (q_t2 (List.mem_of_getElem? (i := 41) (by rfl))) (by rfl)
theorem q_m_X0_82 : Cond.methodLink RX0 82 yX0_layAgain ∈ lw_g := q_g (q_t2 (List.mem_of_getElem? (i := 42) (by rfl))) (by rfl)
theorem q_i_yX0_layAgain : Cond.instanceMethod yX0_layAgain ∈ lw_g := q_g (q_t2 (List.mem_of_getElem? (i := 44) (by rfl))) (by rfl)
theorem q_c_yX0_layAgain : Cond.code yX0_layAgain cX0_layAgain 2 (some .boolean) ∈ lw_g := q_g (q_t2 (List.mem_of_getElem? (i := 45) (by rfl))) (by rfl)
theorem q_m_X0_95 : Cond.methodLink RX0 95 yX0_liftPieces ∈ lw_g := q_g (q_t2 (List.mem_of_getElem? (i := 46) (by rfl))) (by rfl)
theorem q_i_yX0_liftPieces : Cond.instanceMethod yX0_liftPieces ∈ lw_g := q_g (q_t2 (List.mem_of_getElem? (i := 48) (by rfl))) (by rfl)
theorem q_c_yX0_liftPieces : Cond.code yX0_liftPieces cX0_liftPieces 3 none ∈ lw_g := q_g (q_t2 (List.mem_of_getElem? (i := 49) (by rfl))) (by rfl)
theorem q_m_X0_99 : Cond.methodLink RX0 99 yX3_vacate ∈ lw_g := q_g (q_t2 (List.mem_of_getElem? (i := 50) (by rfl))) (by rfl)
theorem q_i_yX3_vacate : Cond.instanceMethod yX3_vacate ∈ lw_g := q_g (q_t2 (List.mem_of_getElem? (i := 51) (by rfl))) (by rfl)
theorem q_x_yX3_vacate : Cond.selects RX3 yX3_vacate yX3_vacate ∈ lw_g := q_g (q_t2 (List.mem_of_getElem? (i := 52) (by rfl))) (by rfl)
theorem q_c_yX3_vacate : Cond.code yX3_vacate cX3_vacate 2 none ∈ lw_g := q_g (q_t2 (List.mem_of_getElem? (i := 53) (by rfl))) (by rfl)
theorem q_m_X0_102 : Cond.methodLink RX0 102 yX0_layHeadAgain ∈ lw_g := q_g (q_t2 (List.mem_of_getElem? (i := 54) (by rfl))) (by rfl)
theorem q_i_yX0_layHeadAgain : Cond.instanceMethod yX0_layHeadAgain ∈ lw_g := q_g (q_t2 (List.mem_of_getElem? (i := 56) (by rfl))) (by rfl)
theorem q_c_yX0_layHeadAgain : Cond.code yX0_layHeadAgain cX0_layHeadAgain 6 (some .int) ∈ lw_g := q_g (q_t2 (List.mem_of_getElem? (i := 57) (by rfl))) (by rfl)
theorem q_m_X0_105 : Cond.methodLink RX0 105 yX3_hasRoom ∈ lw_g := q_g (q_t2 (List.mem_of_getElem? (i := 58) (by rfl))) (by rfl)
theorem q_m_X0_109 : Cond.methodLink RX0 109 yX3_occupy ∈ lw_g := q_g (q_t2 (List.mem_of_getElem? (i := 59) (by rfl))) (by rfl)
theorem q_m_X4_93 : Cond.methodLink RX4 93 yX4_takeTrial ∈ lw_g := q_g (q_t2 (List.mem_of_getElem? (i := 60) (by rfl))) (by rfl)
theorem q_i_yX4_takeTrial : Cond.instanceMethod yX4_takeTrial ∈ lw_g := q_g (q_t2 (List.mem_of_getElem? (i := 62) (by rfl))) (by rfl)
theorem q_c_yX4_takeTrial : Cond.code yX4_takeTrial cX4_takeTrial 2 none ∈ lw_g := q_g (q_t2 (List.mem_of_getElem? (i := 63) (by rfl))) (by rfl)
theorem q_m_L_23 : Cond.methodLink RL 23 yX4_append ∈ lw_g := q_g (q_t2 (List.mem_of_getElem? (i := 64) (by rfl))) (by rfl)
theorem q_i_yX4_append : Cond.instanceMethod yX4_append ∈ lw_g := q_g (q_t2 (List.mem_of_getElem? (i := 65) (by rfl))) (by rfl)
theorem q_x_yX4_append : Cond.selects RX4 yX4_append yX4_append ∈ lw_g := q_g (q_t2 (List.mem_of_getElem? (i := 66) (by rfl))) (by rfl)
theorem q_c_yX4_append : Cond.code yX4_append cX4_append 5 (some .int) ∈ lw_g := q_g (q_t2 (List.mem_of_getElem? (i := 67) (by rfl))) (by rfl)
theorem q_m_X4_96 : Cond.methodLink RX4 96 yX0_rowOf ∈ lw_g := q_g (q_t2 (List.mem_of_getElem? (i := 68) (by rfl))) (by rfl)
theorem q_m_L_27 : Cond.methodLink RL 27 yX4_delete ∈ lw_g := q_g (q_t2 (List.mem_of_getElem? (i := 69) (by rfl))) (by rfl)
theorem q_i_yX4_delete : Cond.instanceMethod yX4_delete ∈ lw_g := q_g (q_t2 (List.mem_of_getElem? (i := 70) (by rfl))) (by rfl)
theorem q_x_yX4_delete : Cond.selects RX4 yX4_delete yX4_delete ∈ lw_g := q_g (q_t2 (List.mem_of_getElem? (i := 71) (by rfl))) (by rfl)
theorem q_c_yX4_delete : Cond.code yX4_delete cX4_delete 4 (some .int) ∈ lw_g := q_g (q_t2 (List.mem_of_getElem? (i := 72) (by rfl))) (by rfl)
theorem q_m_X4_100 : Cond.methodLink RX4 100 yX0_cellsOf ∈ lw_g := q_g (q_t2 (List.mem_of_getElem? (i := 73) (by rfl))) (by rfl)
theorem q_i_yX0_cellsOf : Cond.instanceMethod yX0_cellsOf ∈ lw_g := q_g (q_t2 (List.mem_of_getElem? (i := 74) (by rfl))) (by rfl)
theorem q_x_yX0_cellsOf : Cond.selects RX0 yX0_cellsOf yX0_cellsOf ∈ lw_g := q_g (q_t2 (List.mem_of_getElem? (i := 75) (by rfl))) (by rfl)
theorem q_c_yX0_cellsOf : Cond.code yX0_cellsOf cX0_cellsOf 4 (some .int) ∈ lw_g := q_g (q_t2 (List.mem_of_getElem? (i := 76) (by rfl))) (by rfl)
theorem q_m_X0_122 : Cond.methodLink RX0 122 yX0_hasMoved ∈ lw_g := q_g (q_t2 (List.mem_of_getElem? (i := 77) (by rfl))) (by rfl)
theorem q_i_yX0_hasMoved : Cond.instanceMethod yX0_hasMoved ∈ lw_g := q_g (q_t2 (List.mem_of_getElem? (i := 78) (by rfl))) (by rfl)
theorem q_x_yX0_hasMoved : Cond.selects RX0 yX0_hasMoved yX0_hasMoved ∈ lw_g := q_g (q_t2 (List.mem_of_getElem? (i := 79) (by rfl))) (by rfl)
theorem q_c_yX0_hasMoved : Cond.code yX0_hasMoved cX0_hasMoved 2 (some .boolean) ∈ lw_g := q_g (q_t2 (List.mem_of_getElem? (i := 80) (by rfl))) (by rfl)
theorem q_m_X4_103 : Cond.methodLink RX4 103 yX0_removeRow ∈ lw_g := q_g (q_t2 (List.mem_of_getElem? (i := 81) (by rfl))) (by rfl)
theorem q_i_yX0_removeRow : Cond.instanceMethod yX0_removeRow ∈ lw_g := q_g (q_t2 (List.mem_of_getElem? (i := 82) (by rfl))) (by rfl)
theorem q_x_yX0_removeRow : Cond.selects RX0 yX0_removeRow yX0_removeRow ∈ lw_g := q_g (q_t2 (List.mem_of_getElem? (i := 83) (by rfl))) (by rfl)
theorem q_c_yX0_removeRow : Cond.code yX0_removeRow cX0_removeRow 2 none ∈ lw_g := q_g (q_t2 (List.mem_of_getElem? (i := 84) (by rfl))) (by rfl)
theorem q_m_L_32 : Cond.methodLink RL 32 yX4_pack ∈ lw_g := q_g (q_t2 (List.mem_of_getElem? (i := 85) (by rfl))) (by rfl)
theorem q_i_yX4_pack : Cond.instanceMethod yX4_pack ∈ lw_g := q_g (q_t2 (List.mem_of_getElem? (i := 86) (by rfl))) (by rfl)
theorem q_x_yX4_pack : Cond.selects RX4 yX4_pack yX4_pack ∈ lw_g := q_g (q_t2 (List.mem_of_getElem? (i := 87) (by rfl))) (by rfl)
theorem q_c_yX4_pack : Cond.code yX4_pack cX4_pack 1 (some .int) ∈ lw_g := q_g (q_t2 (List.mem_of_getElem? (i := 88) (by rfl))) (by rfl)
theorem q_m_X4_107 : Cond.methodLink RX4 107 yX4_tryPacking ∈ lw_g := q_g (q_t2 (List.mem_of_getElem? (i := 89) (by rfl))) (by rfl)
theorem q_i_yX4_tryPacking : Cond.instanceMethod yX4_tryPacking ∈ lw_g := q_g (q_t2 (List.mem_of_getElem? (i := 91) (by rfl))) (by rfl)
theorem q_c_yX4_tryPacking : Cond.code yX4_tryPacking cX4_tryPacking 2 (some .boolean) ∈ lw_g := q_g (q_t2 (List.mem_of_getElem? (i := 92) (by rfl))) (by rfl)
theorem q_m_X4_119 : Cond.methodLink RX4 119 yX0_packAll ∈ lw_g := q_g (q_t2 (List.mem_of_getElem? (i := 93) (by rfl))) (by rfl)
theorem q_i_yX0_packAll : Cond.instanceMethod yX0_packAll ∈ lw_g := q_g (q_t2 (List.mem_of_getElem? (i := 94) (by rfl))) (by rfl)
theorem q_x_yX0_packAll : Cond.selects RX0 yX0_packAll yX0_packAll ∈ lw_g := q_g (q_t2 (List.mem_of_getElem? (i := 95) (by rfl))) (by rfl)
theorem q_c_yX0_packAll : Cond.code yX0_packAll cX0_packAll 2 (some .boolean) ∈ lw_g := q_g (q_t2 (List.mem_of_getElem? (i := 96) (by rfl))) (by rfl)
theorem q_m_X0_125 : Cond.methodLink RX0 125 yX3_clear ∈ lw_g := q_g (q_t2 (List.mem_of_getElem? (i := 97) (by rfl))) (by rfl)
theorem q_i_yX3_clear : Cond.instanceMethod yX3_clear ∈ lw_g := q_g (q_t2 (List.mem_of_getElem? (i := 98) (by rfl))) (by rfl)
theorem q_x_yX3_clear : Cond.selects RX3 yX3_clear yX3_clear ∈ lw_g := q_g (q_t2 (List.mem_of_getElem? (i := 99) (by rfl))) (by rfl)
theorem q_c_yX3_clear : Cond.code yX3_clear cX3_clear 1 none ∈ lw_g := q_g (q_t2 (List.mem_of_getElem? (i := 100) (by rfl))) (by rfl)
theorem q_m_X4_114 : Cond.methodLink RX4 114 yX3_pagesInUse ∈ lw_g := q_g (q_t2 (List.mem_of_getElem? (i := 101) (by rfl))) (by rfl)
theorem q_i_yX3_pagesInUse : Cond.instanceMethod yX3_pagesInUse ∈ lw_g := q_g (q_t2 (List.mem_of_getElem? (i := 102) (by rfl))) (by rfl)
theorem q_x_yX3_pagesInUse : Cond.selects RX3 yX3_pagesInUse yX3_pagesInUse ∈ lw_g := q_g (q_t2 (List.mem_of_getElem? (i := 103) (by rfl))) (by rfl)
theorem q_c_yX3_pagesInUse : Cond.code yX3_pagesInUse cX3_pagesInUse 3 (some .int) ∈ lw_g := q_g (q_t2 (List.mem_of_getElem? (i := 104) (by rfl))) (by rfl)
theorem q_m_L_36 : Cond.methodLink RL 36 yX4_row ∈ lw_g := q_g (q_t2 (List.mem_of_getElem? (i := 105) (by rfl))) (by rfl)
theorem q_i_yX4_row : Cond.instanceMethod yX4_row ∈ lw_g := q_g (q_t2 (List.mem_of_getElem? (i := 106) (by rfl))) (by rfl)
theorem q_x_yX4_row : Cond.selects RX4 yX4_row yX4_row ∈ lw_g := q_g (q_t2 (List.mem_of_getElem? (i := 107) (by rfl))) (by rfl)
theorem q_c_yX4_row : Cond.code yX4_row cX4_row 4 (some .int) ∈ lw_g := q_g (q_t2 (List.mem_of_getElem? (i := 108) (by rfl))) (by rfl)
theorem q_m_X4_129 : Cond.methodLink RX4 129 yX0_hasMoved ∈ lw_g := q_g (q_t2 (List.mem_of_getElem? (i := 109) (by rfl))) (by rfl)
theorem q_m_X4_138 : Cond.methodLink RX4 138 yX0_costOf ∈ lw_g := q_g (q_t2 (List.mem_of_getElem? (i := 110) (by rfl))) (by rfl)
theorem q_i_yX0_costOf : Cond.instanceMethod yX0_costOf ∈ lw_g := q_g (q_t2 (List.mem_of_getElem? (i := 111) (by rfl))) (by rfl)
theorem q_x_yX0_costOf : Cond.selects RX0 yX0_costOf yX0_costOf ∈ lw_g := q_g (q_t2 (List.mem_of_getElem? (i := 112) (by rfl))) (by rfl)
theorem q_c_yX0_costOf : Cond.code yX0_costOf cX0_costOf 6 (some .int) ∈ lw_g := q_g (q_t2 (List.mem_of_getElem? (i := 113) (by rfl))) (by rfl)
theorem q_m_L_40 : Cond.methodLink RL 40 yX4_letter ∈ lw_g := q_g (q_t2 (List.mem_of_getElem? (i := 114) (by rfl))) (by rfl)
theorem q_i_yX4_letter : Cond.instanceMethod yX4_letter ∈ lw_g := q_g (q_t2 (List.mem_of_getElem? (i := 115) (by rfl))) (by rfl)
theorem q_x_yX4_letter : Cond.selects RX4 yX4_letter yX4_letter ∈ lw_g := q_g (q_t2 (List.mem_of_getElem? (i := 116) (by rfl))) (by rfl)
theorem q_c_yX4_letter : Cond.code yX4_letter cX4_letter 4 (some .int) ∈ lw_g := q_g (q_t2 (List.mem_of_getElem? (i := 117) (by rfl))) (by rfl)
theorem q_m_L_44 : Cond.methodLink RL 44 yX4_piece ∈ lw_g := q_g (q_t2 (List.mem_of_getElem? (i := 118) (by rfl))) (by rfl)
theorem q_i_yX4_piece : Cond.instanceMethod yX4_piece ∈ lw_g := q_g (q_t2 (List.mem_of_getElem? (i := 119) (by rfl))) (by rfl)
theorem q_x_yX4_piece : Cond.selects RX4 yX4_piece yX4_piece ∈ lw_g := q_g (q_t2 (List.mem_of_getElem? (i := 120) (by rfl))) (by rfl)
theorem q_c_yX4_piece : Cond.code yX4_piece cX4_piece 6 (some .int) ∈ lw_g := q_g (q_t2 (List.mem_of_getElem? (i := 121) (by rfl))) (by rfl)
theorem q_m_L_49 : Cond.methodLink RL 49 yX4_page ∈ lw_g := q_g (q_t2 (List.mem_of_getElem? (i := 122) (by rfl))) (by rfl)
theorem q_i_yX4_page : Cond.instanceMethod yX4_page ∈ lw_g := q_g (q_t2 (List.mem_of_getElem? (i := 123) (by rfl))) (by rfl)
theorem q_x_yX4_page : Cond.selects RX4 yX4_page yX4_page ∈ lw_g := q_g (q_t2 (List.mem_of_getElem? (i := 124) (by rfl))) (by rfl)
theorem q_c_yX4_page : Cond.code yX4_page cX4_page 3 (some .int) ∈ lw_g := q_g (q_t2 (List.mem_of_getElem? (i := 125) (by rfl))) (by rfl)
theorem q_m_X4_147 : Cond.methodLink RX4 147 yX3_slotsOf ∈ lw_g := q_g (q_t2 (List.mem_of_getElem? (i := 126) (by rfl))) (by rfl)
theorem q_i_yX3_slotsOf : Cond.instanceMethod yX3_slotsOf ∈ lw_g := q_g (q_t2 (List.mem_of_getElem? (i := 127) (by rfl))) (by rfl)
theorem q_x_yX3_slotsOf : Cond.selects RX3 yX3_slotsOf yX3_slotsOf ∈ lw_g := q_g (q_t2 (List.mem_of_getElem? (i := 128) (by rfl))) (by rfl)
theorem q_c_yX3_slotsOf : Cond.code yX3_slotsOf cX3_slotsOf 3 (some .int) ∈ lw_g := q_g (q_t2 (List.mem_of_getElem? (i := 129) (by rfl))) (by rfl)
theorem q_m_X4_150 : Cond.methodLink RX4 150 yX3_thingsOn ∈ lw_g := q_g (q_t2 (List.mem_of_getElem? (i := 130) (by rfl))) (by rfl)
theorem q_i_yX3_thingsOn : Cond.instanceMethod yX3_thingsOn ∈ lw_g := q_g (q_t2 (List.mem_of_getElem? (i := 131) (by rfl))) (by rfl)
theorem q_x_yX3_thingsOn : Cond.selects RX3 yX3_thingsOn yX3_thingsOn ∈ lw_g := q_g (q_t2 (List.mem_of_getElem? (i := 132) (by rfl))) (by rfl)
theorem q_c_yX3_thingsOn : Cond.code yX3_thingsOn cX3_thingsOn 6 (some .int) ∈ lw_g := q_g (q_t2 (List.mem_of_getElem? (i := 133) (by rfl))) (by rfl)
theorem q_m_X3_48 : Cond.methodLink RX3 48 yX3_slotsOf ∈ lw_g := q_g (q_t2 (List.mem_of_getElem? (i := 134) (by rfl))) (by rfl)
theorem q_m_L_53 : Cond.methodLink RL 53 yX4_slot ∈ lw_g := q_g (q_t2 (List.mem_of_getElem? (i := 135) (by rfl))) (by rfl)
theorem q_i_yX4_slot : Cond.instanceMethod yX4_slot ∈ lw_g := q_g (q_t2 (List.mem_of_getElem? (i := 136) (by rfl))) (by rfl)
theorem q_x_yX4_slot : Cond.selects RX4 yX4_slot yX4_slot ∈ lw_g := q_g (q_t2 (List.mem_of_getElem? (i := 137) (by rfl))) (by rfl)
theorem q_c_yX4_slot : Cond.code yX4_slot cX4_slot 5 (some .int) ∈ lw_g := q_g (q_t2 (List.mem_of_getElem? (i := 138) (by rfl))) (by rfl)
theorem q_m_L_57 : Cond.methodLink RL 57 yX4_count ∈ lw_g := q_g (q_t2 (List.mem_of_getElem? (i := 139) (by rfl))) (by rfl)
theorem q_i_yX4_count : Cond.instanceMethod yX4_count ∈ lw_g := q_g (q_t2 (List.mem_of_getElem? (i := 140) (by rfl))) (by rfl)
theorem q_x_yX4_count : Cond.selects RX4 yX4_count yX4_count ∈ lw_g := q_g (q_t2 (List.mem_of_getElem? (i := 141) (by rfl))) (by rfl)
theorem q_c_yX4_count : Cond.code yX4_count cX4_count 2 (some .int) ∈ lw_g := q_g (q_t2 (List.mem_of_getElem? (i := 142) (by rfl))) (by rfl)
theorem q_m_X4_160 : Cond.methodLink RX4 160 yX3_thingsInAll ∈ lw_g := q_g (q_t2 (List.mem_of_getElem? (i := 143) (by rfl))) (by rfl)
theorem q_i_yX3_thingsInAll : Cond.instanceMethod yX3_thingsInAll ∈ lw_g := q_g (q_t2 (List.mem_of_getElem? (i := 144) (by rfl))) (by rfl)
theorem q_x_yX3_thingsInAll : Cond.selects RX3 yX3_thingsInAll yX3_thingsInAll ∈ lw_g := q_g (q_t2 (List.mem_of_getElem? (i := 145) (by rfl))) (by rfl)
theorem q_c_yX3_thingsInAll : Cond.code yX3_thingsInAll cX3_thingsInAll 4 (some .int) ∈ lw_g := q_g (q_t2 (List.mem_of_getElem? (i := 146) (by rfl))) (by rfl)
theorem q_m_X3_51 : Cond.methodLink RX3 51 yX3_thingsOn ∈ lw_g := q_g (q_t2 (List.mem_of_getElem? (i := 147) (by rfl))) (by rfl)
theorem q_m_X4_163 : Cond.methodLink RX4 163 yX3_freeInAll ∈ lw_g := q_g (q_t2 (List.mem_of_getElem? (i := 148) (by rfl))) (by rfl)
theorem q_i_yX3_freeInAll : Cond.instanceMethod yX3_freeInAll ∈ lw_g := q_g (q_t2 (List.mem_of_getElem? (i := 149) (by rfl))) (by rfl)
theorem q_x_yX3_freeInAll : Cond.selects RX3 yX3_freeInAll yX3_freeInAll ∈ lw_g := q_g (q_t2 (List.mem_of_getElem? (i := 150) (by rfl))) (by rfl)
theorem q_c_yX3_freeInAll : Cond.code yX3_freeInAll cX3_freeInAll 3 (some .int) ∈ lw_g := q_g (q_t2 (List.mem_of_getElem? (i := 151) (by rfl))) (by rfl)
theorem q_m_X4_166 : Cond.methodLink RX4 166 yX0_costInAll ∈ lw_g := q_g (q_t2 (List.mem_of_getElem? (i := 152) (by rfl))) (by rfl)
theorem q_i_yX0_costInAll : Cond.instanceMethod yX0_costInAll ∈ lw_g := q_g (q_t2 (List.mem_of_getElem? (i := 153) (by rfl))) (by rfl)
theorem q_x_yX0_costInAll : Cond.selects RX0 yX0_costInAll yX0_costInAll ∈ lw_g := q_g (q_t2 (List.mem_of_getElem? (i := 154) (by rfl))) (by rfl)
theorem q_c_yX0_costInAll : Cond.code yX0_costInAll cX0_costInAll 3 (some .int) ∈ lw_g := q_g (q_t2 (List.mem_of_getElem? (i := 155) (by rfl))) (by rfl)
theorem q_m_X0_131 : Cond.methodLink RX0 131 yX0_costOf ∈ lw_g := q_g (q_t2 (List.mem_of_getElem? (i := 156) (by rfl))) (by rfl)
theorem q_m_X4_169 : Cond.methodLink RX4 169 yX0_lettersInAll ∈ lw_g := q_g (q_t2 (List.mem_of_getElem? (i := 157) (by rfl))) (by rfl)
theorem q_i_yX0_lettersInAll : Cond.instanceMethod yX0_lettersInAll ∈ lw_g := q_g (q_t2 (List.mem_of_getElem? (i := 158) (by rfl))) (by rfl)
theorem q_x_yX0_lettersInAll : Cond.selects RX0 yX0_lettersInAll yX0_lettersInAll ∈ lw_g := q_g (q_t2 (List.mem_of_getElem? (i := 159) (by rfl))) (by rfl)
theorem q_c_yX0_lettersInAll : Cond.code yX0_lettersInAll cX0_lettersInAll 3 (some .int) ∈ lw_g := q_g (q_t2 (List.mem_of_getElem? (i := 160) (by rfl))) (by rfl)
theorem q_m_X4_172 : Cond.methodLink RX4 172 yX0_greatestCost ∈ lw_g := q_g (q_t2 (List.mem_of_getElem? (i := 161) (by rfl))) (by rfl)
theorem q_i_yX0_greatestCost : Cond.instanceMethod yX0_greatestCost ∈ lw_g := q_g (q_t2 (List.mem_of_getElem? (i := 162) (by rfl))) (by rfl)
theorem q_x_yX0_greatestCost : Cond.selects RX0 yX0_greatestCost yX0_greatestCost ∈ lw_g := q_g (q_t2 (List.mem_of_getElem? (i := 163) (by rfl))) (by rfl)
theorem q_c_yX0_greatestCost : Cond.code yX0_greatestCost cX0_greatestCost 3 (some .int) ∈ lw_g := q_g (q_t2 (List.mem_of_getElem? (i := 164) (by rfl))) (by rfl)
theorem q_m_X0_134 : Cond.methodLink RX0 134 Lib.Math.max.name ∈ lw_g := q_g (q_t2 (List.mem_of_getElem? (i := 165) (by rfl))) (by rfl)
theorem q_s_Lib_Math_max_name : Cond.static Lib.Math.max.name ∈ lw_g := q_g (q_t2 (List.mem_of_getElem? (i := 166) (by rfl))) (by rfl)
theorem q_c_yJ9_max_7cf53 : Cond.code Lib.Math.max.name Lib.Math.max.code 2 (some .int) ∈ lw_g := q_g (q_t2 (List.mem_of_getElem? (i := 167) (by rfl))) (by rfl)
theorem q_m_L_61 : Cond.methodLink RL 61 yX4_key ∈ lw_g := q_g (q_t2 (List.mem_of_getElem? (i := 168) (by rfl))) (by rfl)
theorem q_i_yX4_key : Cond.instanceMethod yX4_key ∈ lw_g := q_g (q_t2 (List.mem_of_getElem? (i := 169) (by rfl))) (by rfl)
theorem q_x_yX4_key : Cond.selects RX4 yX4_key yX4_key ∈ lw_g := q_g (q_t2 (List.mem_of_getElem? (i := 170) (by rfl))) (by rfl)
theorem q_c_yX4_key : Cond.code yX4_key cX4_key 4 (some .int) ∈ lw_g := q_g (q_t2 (List.mem_of_getElem? (i := 171) (by rfl))) (by rfl)
theorem q_m_L_65 : Cond.methodLink RL 65 yX4_ifPacked ∈ lw_g := q_g (q_t2 (List.mem_of_getElem? (i := 172) (by rfl))) (by rfl)
theorem q_i_yX4_ifPacked : Cond.instanceMethod yX4_ifPacked ∈ lw_g := q_g (q_t2 (List.mem_of_getElem? (i := 173) (by rfl))) (by rfl)
theorem q_x_yX4_ifPacked : Cond.selects RX4 yX4_ifPacked yX4_ifPacked ∈ lw_g := q_g (q_t2 (List.mem_of_getElem? (i := 174) (by rfl))) (by rfl)
theorem q_c_yX4_ifPacked : Cond.code yX4_ifPacked cX4_ifPacked 3 (some .int) ∈ lw_g := q_g (q_t2 (List.mem_of_getElem? (i := 175) (by rfl))) (by rfl)
theorem q_m_L_69 : Cond.methodLink RL 69 yX4_bestHead ∈ lw_g := q_g (q_t2 (List.mem_of_getElem? (i := 176) (by rfl))) (by rfl)
theorem q_i_yX4_bestHead : Cond.instanceMethod yX4_bestHead ∈ lw_g := q_g (q_t2 (List.mem_of_getElem? (i := 177) (by rfl))) (by rfl)
theorem q_x_yX4_bestHead : Cond.selects RX4 yX4_bestHead yX4_bestHead ∈ lw_g := q_g (q_t2 (List.mem_of_getElem? (i := 178) (by rfl))) (by rfl)
theorem q_c_yX4_bestHead : Cond.code yX4_bestHead cX4_bestHead 5 (some .int) ∈ lw_g := q_g (q_t2 (List.mem_of_getElem? (i := 179) (by rfl))) (by rfl)
theorem q_m_L_73 : Cond.methodLink RL 73 yX4_most ∈ lw_g := q_g (q_t2 (List.mem_of_getElem? (i := 180) (by rfl))) (by rfl)
theorem q_i_yX4_most : Cond.instanceMethod yX4_most ∈ lw_g := q_g (q_t2 (List.mem_of_getElem? (i := 181) (by rfl))) (by rfl)
theorem q_x_yX4_most : Cond.selects RX4 yX4_most yX4_most ∈ lw_g := q_g (q_t2 (List.mem_of_getElem? (i := 182) (by rfl))) (by rfl)
theorem q_c_yX4_most : Cond.code yX4_most cX4_most 3 (some .int) ∈ lw_g := q_g (q_t2 (List.mem_of_getElem? (i := 183) (by rfl))) (by rfl)
theorem q_m_L_79 : Cond.methodLink RL 79 yX4_put ∈ lw_g := q_g (q_t2 (List.mem_of_getElem? (i := 184) (by rfl))) (by rfl)
theorem q_i_yX4_put : Cond.instanceMethod yX4_put ∈ lw_g := q_g (q_t2 (List.mem_of_getElem? (i := 185) (by rfl))) (by rfl)
theorem q_x_yX4_put : Cond.selects RX4 yX4_put yX4_put ∈ lw_g := q_g (q_t2 (List.mem_of_getElem? (i := 186) (by rfl))) (by rfl)
theorem q_c_yX4_put : Cond.code yX4_put cX4_put 5 (some .int) ∈ lw_g := q_g (q_t2 (List.mem_of_getElem? (i := 187) (by rfl))) (by rfl)
theorem q_m_X4_178 : Cond.methodLink RX4 178 yX4_signsIn ∈ lw_g := q_g (q_t2 (List.mem_of_getElem? (i := 188) (by rfl))) (by rfl)
theorem q_s_yX4_signsIn : Cond.static yX4_signsIn ∈ lw_g := q_g (q_t2 (List.mem_of_getElem? (i := 189) (by rfl))) (by rfl)
theorem q_c_yX4_signsIn : Cond.code yX4_signsIn cX4_signsIn 4 (some .int) ∈ lw_g := q_g (q_t2 (List.mem_of_getElem? (i := 190) (by rfl))) (by rfl)
theorem q_m_X4_182 : Cond.methodLink RX4 182 yX4_signOf ∈ lw_g := q_g (q_t2 (List.mem_of_getElem? (i := 191) (by rfl))) (by rfl)
theorem q_s_yX4_signOf : Cond.static yX4_signOf ∈ lw_g := q_g (q_t2 (List.mem_of_getElem? (i := 192) (by rfl))) (by rfl)
theorem q_c_yX4_signOf : Cond.code yX4_signOf cX4_signOf 3 (some .int) ∈ lw_g := q_g (q_t2 (List.mem_of_getElem? (i := 193) (by rfl))) (by rfl)
theorem q_m_L_84 : Cond.methodLink RL 84 yX4_wipe ∈ lw_g := q_g (q_t2 (List.mem_of_getElem? (i := 194) (by rfl))) (by rfl)
theorem q_i_yX4_wipe : Cond.instanceMethod yX4_wipe ∈ lw_g := q_g (q_t2 (List.mem_of_getElem? (i := 195) (by rfl))) (by rfl)
theorem q_x_yX4_wipe : Cond.selects RX4 yX4_wipe yX4_wipe ∈ lw_g := q_g (q_t2 (List.mem_of_getElem? (i := 196) (by rfl))) (by rfl)
theorem q_c_yX4_wipe : Cond.code yX4_wipe cX4_wipe 2 (some .int) ∈ lw_g := q_g (q_t2 (List.mem_of_getElem? (i := 197) (by rfl))) (by rfl)
theorem q_m_L_88 : Cond.methodLink RL 88 yX4_fault ∈ lw_g := q_g (q_t2 (List.mem_of_getElem? (i := 198) (by rfl))) (by rfl)
theorem q_i_yX4_fault : Cond.instanceMethod yX4_fault ∈ lw_g := q_g (q_t2 (List.mem_of_getElem? (i := 199) (by rfl))) (by rfl)
theorem q_x_yX4_fault : Cond.selects RX4 yX4_fault yX4_fault ∈ lw_g := q_g (q_t2 (List.mem_of_getElem? (i := 200) (by rfl))) (by rfl)
theorem q_c_yX4_fault : Cond.code yX4_fault cX4_fault 2 (some .int) ∈ lw_g := q_g (q_t2 (List.mem_of_getElem? (i := 201) (by rfl))) (by rfl)
theorem q_m_L_92 : Cond.methodLink RL 92 yX4_undo ∈ lw_g := q_g (q_t2 (List.mem_of_getElem? (i := 202) (by rfl))) (by rfl)
theorem q_i_yX4_undo : Cond.instanceMethod yX4_undo ∈ lw_g := q_g (q_t2 (List.mem_of_getElem? (i := 203) (by rfl))) (by rfl)
theorem q_x_yX4_undo : Cond.selects RX4 yX4_undo yX4_undo ∈ lw_g := q_g (q_t2 (List.mem_of_getElem? (i := 204) (by rfl))) (by rfl)
theorem q_c_yX4_undo : Cond.code yX4_undo cX4_undo 1 (some .int) ∈ lw_g := q_g (q_t2 (List.mem_of_getElem? (i := 205) (by rfl))) (by rfl)
theorem q_m_X4_186 : Cond.methodLink RX4 186 yX1_giveBack ∈ lw_g := q_g (q_t2 (List.mem_of_getElem? (i := 206) (by rfl))) (by rfl)
theorem q_i_yX1_giveBack : Cond.instanceMethod yX1_giveBack ∈ lw_g := q_g (q_t2 (List.mem_of_getElem? (i := 207) (by rfl))) (by rfl)
theorem q_x_yX1_giveBack : Cond.selects RX1 yX1_giveBack yX1_giveBack ∈ lw_g := q_g (q_t2 (List.mem_of_getElem? (i := 208) (by rfl))) (by rfl)
theorem q_c_yX1_giveBack : Cond.code yX1_giveBack cX1_giveBack 3 none ∈ lw_g := q_g (q_t2 (List.mem_of_getElem? (i := 209) (by rfl))) (by rfl)
theorem q_m_L_96 : Cond.methodLink RL 96 yX4_save ∈ lw_g := q_g (q_t2 (List.mem_of_getElem? (i := 210) (by rfl))) (by rfl)
theorem q_i_yX4_save : Cond.instanceMethod yX4_save ∈ lw_g := q_g (q_t2 (List.mem_of_getElem? (i := 211) (by rfl))) (by rfl)
theorem q_x_yX4_save : Cond.selects RX4 yX4_save yX4_save ∈ lw_g := q_g (q_t2 (List.mem_of_getElem? (i := 212) (by rfl))) (by rfl)
theorem q_c_yX4_save : Cond.code yX4_save cX4_save 2 (some .int) ∈ lw_g := q_g (q_t2 (List.mem_of_getElem? (i := 213) (by rfl))) (by rfl)
theorem q_m_L_100 : Cond.methodLink RL 100 yX4_restore ∈ lw_g := q_g (q_t2 (List.mem_of_getElem? (i := 214) (by rfl))) (by rfl)
theorem q_i_yX4_restore : Cond.instanceMethod yX4_restore ∈ lw_g := q_g (q_t2 (List.mem_of_getElem? (i := 215) (by rfl))) (by rfl)
theorem q_x_yX4_restore : Cond.selects RX4 yX4_restore yX4_restore ∈ lw_g := q_g (q_t2 (List.mem_of_getElem? (i := 216) (by rfl))) (by rfl)
theorem q_c_yX4_restore : Cond.code yX4_restore cX4_restore 2 (some .int) ∈ lw_g := q_g (q_t2 (List.mem_of_getElem? (i := 217) (by rfl))) (by rfl)
theorem q_l_L_10 : Cond.classLink RL 10 RX5 ∈ lw_g := q_g (q_t2 (List.mem_of_getElem? (i := 218) (by rfl))) (by rfl)
theorem q_o_X5 : Cond.instantiable RX5 13 ∈ lw_g := q_g (q_t2 (List.mem_of_getElem? (i := 219) (by rfl))) (by rfl)
theorem q_m_L_12 : Cond.methodLink RL 12 yX5_init ∈ lw_g := q_g (q_t2 (List.mem_of_getElem? (i := 220) (by rfl))) (by rfl)
theorem q_i_yX5_init : Cond.instanceMethod yX5_init ∈ lw_g := q_g (q_t2 (List.mem_of_getElem? (i := 221) (by rfl))) (by rfl)
theorem q_c_yX5_init : Cond.code yX5_init cX5_init 1 none ∈ lw_g := q_g (q_t2 (List.mem_of_getElem? (i := 222) (by rfl))) (by rfl)
theorem q_m_X5_1 : Cond.methodLink RX5 1 objectInit ∈ lw_g := q_g (q_t2 (List.mem_of_getElem? (i := 223) (by rfl))) (by rfl)
theorem q_f_X5_7 : Cond.fieldLink RX5 7 "OverflowRowsModel" "state" "[I" ∈ lw_g := q_g (q_t2 (List.mem_of_getElem? (i := 224) (by rfl))) (by rfl)
theorem q_f_X5_13 : Cond.fieldLink RX5 13 "OverflowRowsModel" "kept" "[I" ∈ lw_g := q_g (q_t2 (List.mem_of_getElem? (i := 225) (by rfl))) (by rfl)
theorem q_f_X5_16 : Cond.fieldLink RX5 16 "OverflowRowsModel" "before" "[I" ∈ lw_g := q_g (q_t2 (List.mem_of_getElem? (i := 226) (by rfl))) (by rfl)
theorem q_f_X5_19 : Cond.fieldLink RX5 19 "OverflowRowsModel" "history" "[I" ∈ lw_g := q_g (q_t2 (List.mem_of_getElem? (i := 227) (by rfl))) (by rfl)
theorem q_f_X5_37 : Cond.fieldLink RX5 37 "OverflowRowsModel" "recorded" "I" ∈ lw_g := q_g (q_t2 (List.mem_of_getElem? (i := 228) (by rfl))) (by rfl)
theorem q_f_X5_22 : Cond.fieldLink RX5 22 "OverflowRowsModel" "saved" "[I" ∈ lw_g := q_g (q_t2 (List.mem_of_getElem? (i := 229) (by rfl))) (by rfl)
theorem q_f_X5_25 : Cond.fieldLink RX5 25 "OverflowRowsModel" "isSaved" "[I" ∈ lw_g := q_g (q_t2 (List.mem_of_getElem? (i := 230) (by rfl))) (by rfl)
theorem q_f_X5_28 : Cond.fieldLink RX5 28 "OverflowRowsModel" "pad" "[I" ∈ lw_g := q_g (q_t2 (List.mem_of_getElem? (i := 231) (by rfl))) (by rfl)
theorem q_f_X5_145 : Cond.fieldLink RX5 145 "OverflowRowsModel" "padLength" "I" ∈ lw_g := q_g (q_t2 (List.mem_of_getElem? (i := 232) (by rfl))) (by rfl)
theorem q_f_X5_31 : Cond.fieldLink RX5 31 "OverflowRowsModel" "told" "[I" ∈ lw_g := q_g (q_t2 (List.mem_of_getElem? (i := 233) (by rfl))) (by rfl)
theorem q_f_X5_85 : Cond.fieldLink RX5 85 "OverflowRowsModel" "toldMany" "I" ∈ lw_g := q_g (q_t2 (List.mem_of_getElem? (i := 234) (by rfl))) (by rfl)
theorem q_f_X5_34 : Cond.fieldLink RX5 34 "OverflowRowsModel" "pieces" "[I" ∈ lw_g := q_g (q_t2 (List.mem_of_getElem? (i := 235) (by rfl))) (by rfl)
theorem q_f_X5_65 : Cond.fieldLink RX5 65 "OverflowRowsModel" "piecesMany" "I" ∈ lw_g := q_g (q_t2 (List.mem_of_getElem? (i := 236) (by rfl))) (by rfl)
theorem q_m_L_17 : Cond.methodLink RL 17 yX5_set ∈ lw_g := q_g (q_t3 (List.mem_of_getElem? (i := 24) (by rfl))) (by rfl)
theorem q_i_yX5_set : Cond.instanceMethod yX5_set ∈ lw_g := q_g (q_t3 (List.mem_of_getElem? (i := 25) (by rfl))) (by rfl)
theorem q_x_yX5_set : Cond.selects RX5 yX5_set yX5_set ∈ lw_g := q_g (q_t3 (List.mem_of_getElem? (i := 26) (by rfl))) (by rfl)
theorem q_c_yX5_set : Cond.code yX5_set cX5_set 4 (some .int) ∈ lw_g := q_g (q_t3 (List.mem_of_getElem? (i := 27) (by rfl))) (by rfl)
theorem q_m_X5_134 : Cond.methodLink RX5 134 yX5_isValue ∈ lw_g := q_g (q_t3 (List.mem_of_getElem? (i := 28) (by rfl))) (by rfl)
theorem q_s_yX5_isValue : Cond.static yX5_isValue ∈ lw_g := q_g (q_t3 (List.mem_of_getElem? (i := 29) (by rfl))) (by rfl)
theorem q_c_yX5_isValue : Cond.code yX5_isValue cX5_isValue 2 (some .boolean) ∈ lw_g := q_g (q_t3 (List.mem_of_getElem? (i := 30) (by rfl))) (by rfl)
theorem q_m_X5_130 : Cond.methodLink RX5 130 yX5_within ∈ lw_g := q_g (q_t3 (List.mem_of_getElem? (i := 31) (by rfl))) (by rfl)
theorem q_s_yX5_within : Cond.static yX5_within ∈ lw_g := q_g (q_t3 (List.mem_of_getElem? (i := 32) (by rfl))) (by rfl)
theorem q_c_yX5_within : Cond.code yX5_within cX5_within 3 (some .boolean) ∈ lw_g := q_g (q_t3 (List.mem_of_getElem? (i := 33) (by rfl))) (by rfl)
theorem q_m_X5_138 : Cond.methodLink RX5 138 yX5_record ∈ lw_g := q_g (q_t3 (List.mem_of_getElem? (i := 34) (by rfl))) (by rfl)
theorem q_i_yX5_record : Cond.instanceMethod yX5_record ∈ lw_g := q_g (q_t3 (List.mem_of_getElem? (i := 36) (by rfl))) (by rfl)
theorem q_c_yX5_record : Cond.code yX5_record cX5_record 3 none ∈ lw_g := q_g (q_t3 (List.mem_of_getElem? (i := 37) (by rfl))) (by rfl)
theorem q_m_X5_41 : Cond.methodLink RX5 41 yX5_moves ∈ lw_g := q_g (q_t3 (List.mem_of_getElem? (i := 38) (by rfl))) (by rfl)
theorem q_s_yX5_moves : Cond.static yX5_moves ∈ lw_g := q_g (q_t3 (List.mem_of_getElem? (i := 39) (by rfl))) (by rfl)
theorem q_c_yX5_moves : Cond.code yX5_moves cX5_moves 5 none ∈ lw_g := q_g (q_t3 (List.mem_of_getElem? (i := 40) (by rfl))) (by rfl)
theorem q_m_L_22 : Cond.methodLink RL 22 yX5_write ∈ lw_g := q_g (q_t3 (List.mem_of_getElem? (i := 41) (by rfl))) (by rfl)
theorem q_i_yX5_write : Cond.instanceMethod yX5_write ∈ lw_g := q_g (q_t3 (List.mem_of_getElem? (i := 42) (by rfl))) (by rfl)
theorem q_x_yX5_write : Cond.selects RX5 yX5_write yX5_write ∈ lw_g := q_g (q_t3 (List.mem_of_getElem? (i := 43) (by rfl))) (by rfl)
theorem q_c_yX5_write : Cond.code yX5_write cX5_write 5 (some .int) ∈ lw_g := q_g (q_t3 (List.mem_of_getElem? (i := 44) (by rfl))) (by rfl)
theorem q_m_X5_142 : Cond.methodLink RX5 142 yX5_findFault ∈ lw_g := q_g (q_t3 (List.mem_of_getElem? (i := 45) (by rfl))) (by rfl)
theorem q_i_yX5_findFault : Cond.instanceMethod yX5_findFault ∈ lw_g := q_g (q_t3 (List.mem_of_getElem? (i := 47) (by rfl))) (by rfl)
theorem q_c_yX5_findFault : Cond.code yX5_findFault cX5_findFault 9 (some .int) ∈ lw_g := q_g (q_t3 (List.mem_of_getElem? (i := 48) (by rfl))) (by rfl)
theorem q_m_X5_148 : Cond.methodLink RX5 148 yX5_writes ∈ lw_g := q_g (q_t3 (List.mem_of_getElem? (i := 49) (by rfl))) (by rfl)
theorem q_i_yX5_writes : Cond.instanceMethod yX5_writes ∈ lw_g := q_g (q_t3 (List.mem_of_getElem? (i := 51) (by rfl))) (by rfl)
theorem q_c_yX5_writes : Cond.code yX5_writes cX5_writes 4 (some .boolean) ∈ lw_g := q_g (q_t3 (List.mem_of_getElem? (i := 52) (by rfl))) (by rfl)
theorem q_m_X5_118 : Cond.methodLink RX5 118 yX5_rowWith ∈ lw_g := q_g (q_t3 (List.mem_of_getElem? (i := 53) (by rfl))) (by rfl)
theorem q_i_yX5_rowWith : Cond.instanceMethod yX5_rowWith ∈ lw_g := q_g (q_t3 (List.mem_of_getElem? (i := 55) (by rfl))) (by rfl)
theorem q_c_yX5_rowWith : Cond.code yX5_rowWith cX5_rowWith 4 (some .int) ∈ lw_g := q_g (q_t3 (List.mem_of_getElem? (i := 56) (by rfl))) (by rfl)
theorem q_m_X5_61 : Cond.methodLink RX5 61 yX5_part ∈ lw_g := q_g (q_t3 (List.mem_of_getElem? (i := 57) (by rfl))) (by rfl)
theorem q_i_yX5_part : Cond.instanceMethod yX5_part ∈ lw_g := q_g (q_t3 (List.mem_of_getElem? (i := 59) (by rfl))) (by rfl)
theorem q_c_yX5_part : Cond.code yX5_part cX5_part 3 (some .int) ∈ lw_g := q_g (q_t3 (List.mem_of_getElem? (i := 60) (by rfl))) (by rfl)
theorem q_m_X5_121 : Cond.methodLink RX5 121 yX5_freeRow ∈ lw_g := q_g (q_t3 (List.mem_of_getElem? (i := 61) (by rfl))) (by rfl)
theorem q_i_yX5_freeRow : Cond.instanceMethod yX5_freeRow ∈ lw_g := q_g (q_t3 (List.mem_of_getElem? (i := 63) (by rfl))) (by rfl)
theorem q_c_yX5_freeRow : Cond.code yX5_freeRow cX5_freeRow 3 (some .int) ∈ lw_g := q_g (q_t3 (List.mem_of_getElem? (i := 64) (by rfl))) (by rfl)
theorem q_m_X5_91 : Cond.methodLink RX5 91 yX5_setPart ∈ lw_g := q_g (q_t3 (List.mem_of_getElem? (i := 65) (by rfl))) (by rfl)
theorem q_i_yX5_setPart : Cond.instanceMethod yX5_setPart ∈ lw_g := q_g (q_t3 (List.mem_of_getElem? (i := 67) (by rfl))) (by rfl)
theorem q_c_yX5_setPart : Cond.code yX5_setPart cX5_setPart 4 none ∈ lw_g := q_g (q_t3 (List.mem_of_getElem? (i := 68) (by rfl))) (by rfl)
theorem q_m_X5_124 : Cond.methodLink RX5 124 yX5_writeNew ∈ lw_g := q_g (q_t3 (List.mem_of_getElem? (i := 69) (by rfl))) (by rfl)
theorem q_i_yX5_writeNew : Cond.instanceMethod yX5_writeNew ∈ lw_g := q_g (q_t3 (List.mem_of_getElem? (i := 71) (by rfl))) (by rfl)
theorem q_c_yX5_writeNew : Cond.code yX5_writeNew cX5_writeNew 3 (some .boolean) ∈ lw_g := q_g (q_t3 (List.mem_of_getElem? (i := 72) (by rfl))) (by rfl)
theorem q_m_X5_95 : Cond.methodLink RX5 95 yX5_headLetters ∈ lw_g := q_g (q_t3 (List.mem_of_getElem? (i := 73) (by rfl))) (by rfl)
theorem q_i_yX5_headLetters : Cond.instanceMethod yX5_headLetters ∈ lw_g := q_g (q_t3 (List.mem_of_getElem? (i := 75) (by rfl))) (by rfl)
theorem q_c_yX5_headLetters : Cond.code yX5_headLetters cX5_headLetters 1 (some .int) ∈ lw_g := q_g (q_t3 (List.mem_of_getElem? (i := 76) (by rfl))) (by rfl)
theorem q_m_X5_99 : Cond.methodLink RX5 99 yX5_thing ∈ lw_g := q_g (q_t3 (List.mem_of_getElem? (i := 77) (by rfl))) (by rfl)
theorem q_s_yX5_thing : Cond.static yX5_thing ∈ lw_g := q_g (q_t3 (List.mem_of_getElem? (i := 78) (by rfl))) (by rfl)
theorem q_c_yX5_thing : Cond.code yX5_thing cX5_thing 4 (some .int) ∈ lw_g := q_g (q_t3 (List.mem_of_getElem? (i := 79) (by rfl))) (by rfl)
theorem q_m_X5_103 : Cond.methodLink RX5 103 yX5_placed ∈ lw_g := q_g (q_t3 (List.mem_of_getElem? (i := 80) (by rfl))) (by rfl)
theorem q_i_yX5_placed : Cond.instanceMethod yX5_placed ∈ lw_g := q_g (q_t3 (List.mem_of_getElem? (i := 82) (by rfl))) (by rfl)
theorem q_c_yX5_placed : Cond.code yX5_placed cX5_placed 4 (some .int) ∈ lw_g := q_g (q_t3 (List.mem_of_getElem? (i := 83) (by rfl))) (by rfl)
theorem q_m_X5_55 : Cond.methodLink RX5 55 yX5_freeOf ∈ lw_g := q_g (q_t3 (List.mem_of_getElem? (i := 84) (by rfl))) (by rfl)
theorem q_i_yX5_freeOf : Cond.instanceMethod yX5_freeOf ∈ lw_g := q_g (q_t3 (List.mem_of_getElem? (i := 86) (by rfl))) (by rfl)
theorem q_c_yX5_freeOf : Cond.code yX5_freeOf cX5_freeOf 4 (some .int) ∈ lw_g := q_g (q_t3 (List.mem_of_getElem? (i := 87) (by rfl))) (by rfl)
theorem q_m_X5_52 : Cond.methodLink RX5 52 yX5_cellsOf ∈ lw_g := q_g (q_t3 (List.mem_of_getElem? (i := 88) (by rfl))) (by rfl)
theorem q_s_yX5_cellsOf : Cond.static yX5_cellsOf ∈ lw_g := q_g (q_t3 (List.mem_of_getElem? (i := 89) (by rfl))) (by rfl)
theorem q_c_yX5_cellsOf : Cond.code yX5_cellsOf cX5_cellsOf 1 (some .int) ∈ lw_g := q_g (q_t3 (List.mem_of_getElem? (i := 90) (by rfl))) (by rfl)
theorem q_m_X5_45 : Cond.methodLink RX5 45 yX5_kindOf ∈ lw_g := q_g (q_t3 (List.mem_of_getElem? (i := 91) (by rfl))) (by rfl)
theorem q_s_yX5_kindOf : Cond.static yX5_kindOf ∈ lw_g := q_g (q_t3 (List.mem_of_getElem? (i := 92) (by rfl))) (by rfl)
theorem q_c_yX5_kindOf : Cond.code yX5_kindOf cX5_kindOf 1 (some .int) ∈ lw_g := q_g (q_t3 (List.mem_of_getElem? (i := 93) (by rfl))) (by rfl)
theorem q_m_X5_49 : Cond.methodLink RX5 49 yX5_lettersOf ∈ lw_g := q_g (q_t3 (List.mem_of_getElem? (i := 94) (by rfl))) (by rfl)
theorem q_s_yX5_lettersOf : Cond.static yX5_lettersOf ∈ lw_g := q_g (q_t3 (List.mem_of_getElem? (i := 95) (by rfl))) (by rfl)
theorem q_c_yX5_lettersOf : Cond.code yX5_lettersOf cX5_lettersOf 1 (some .int) ∈ lw_g := q_g (q_t3 (List.mem_of_getElem? (i := 96) (by rfl))) (by rfl)
theorem q_m_X5_58 : Cond.methodLink RX5 58 yX5_lowestEmpty ∈ lw_g := q_g (q_t3 (List.mem_of_getElem? (i := 97) (by rfl))) (by rfl)
theorem q_i_yX5_lowestEmpty : Cond.instanceMethod yX5_lowestEmpty ∈ lw_g := q_g (q_t3 (List.mem_of_getElem? (i := 99) (by rfl))) (by rfl)
theorem q_c_yX5_lowestEmpty : Cond.code yX5_lowestEmpty cX5_lowestEmpty 4 (some .int) ∈ lw_g := q_g (q_t3 (List.mem_of_getElem? (i := 100) (by rfl))) (by rfl)
theorem q_m_X5_106 : Cond.methodLink RX5 106 yX5_setText ∈ lw_g := q_g (q_t3 (List.mem_of_getElem? (i := 101) (by rfl))) (by rfl)
theorem q_i_yX5_setText : Cond.instanceMethod yX5_setText ∈ lw_g := q_g (q_t3 (List.mem_of_getElem? (i := 103) (by rfl))) (by rfl)
theorem q_c_yX5_setText : Cond.code yX5_setText cX5_setText 3 none ∈ lw_g := q_g (q_t3 (List.mem_of_getElem? (i := 104) (by rfl))) (by rfl)
theorem q_m_X5_109 : Cond.methodLink RX5 109 yX5_putPieces ∈ lw_g := q_g (q_t3 (List.mem_of_getElem? (i := 105) (by rfl))) (by rfl)
theorem q_i_yX5_putPieces : Cond.instanceMethod yX5_putPieces ∈ lw_g := q_g (q_t3 (List.mem_of_getElem? (i := 107) (by rfl))) (by rfl)
theorem q_c_yX5_putPieces : Cond.code yX5_putPieces cX5_putPieces 5 (some .boolean) ∈ lw_g := q_g (q_t3 (List.mem_of_getElem? (i := 108) (by rfl))) (by rfl)
theorem q_m_X5_127 : Cond.methodLink RX5 127 yX5_writeAgain ∈ lw_g := q_g (q_t3 (List.mem_of_getElem? (i := 109) (by rfl))) (by rfl)
theorem q_i_yX5_writeAgain : Cond.instanceMethod yX5_writeAgain ∈ lw_g := q_g (q_t3 (List.mem_of_getElem? (i := 111) (by rfl))) (by rfl)
theorem q_c_yX5_writeAgain : Cond.code yX5_writeAgain cX5_writeAgain 4 (some .boolean) ∈ lw_g := q_g (q_t3 (List.mem_of_getElem? (i := 112) (by rfl))) (by rfl)
theorem q_m_X5_112 : Cond.methodLink RX5 112 yX5_dropPieces ∈ lw_g := q_g (q_t3 (List.mem_of_getElem? (i := 113) (by rfl))) (by rfl)
theorem q_i_yX5_dropPieces : Cond.instanceMethod yX5_dropPieces ∈ lw_g := q_g (q_t3 (List.mem_of_getElem? (i := 115) (by rfl))) (by rfl)
theorem q_c_yX5_dropPieces : Cond.code yX5_dropPieces cX5_dropPieces 3 none ∈ lw_g := q_g (q_t3 (List.mem_of_getElem? (i := 116) (by rfl))) (by rfl)
theorem q_m_X5_74 : Cond.methodLink RX5 74 yX5_findPieces ∈ lw_g := q_g (q_t3 (List.mem_of_getElem? (i := 117) (by rfl))) (by rfl)
theorem q_i_yX5_findPieces : Cond.instanceMethod yX5_findPieces ∈ lw_g := q_g (q_t3 (List.mem_of_getElem? (i := 119) (by rfl))) (by rfl)
theorem q_c_yX5_findPieces : Cond.code yX5_findPieces cX5_findPieces 4 none ∈ lw_g := q_g (q_t3 (List.mem_of_getElem? (i := 120) (by rfl))) (by rfl)
theorem q_m_X5_68 : Cond.methodLink RX5 68 yX5_rowOf ∈ lw_g := q_g (q_t3 (List.mem_of_getElem? (i := 121) (by rfl))) (by rfl)
theorem q_s_yX5_rowOf : Cond.static yX5_rowOf ∈ lw_g := q_g (q_t3 (List.mem_of_getElem? (i := 122) (by rfl))) (by rfl)
theorem q_c_yX5_rowOf : Cond.code yX5_rowOf cX5_rowOf 1 (some .int) ∈ lw_g := q_g (q_t3 (List.mem_of_getElem? (i := 123) (by rfl))) (by rfl)
theorem q_m_X5_71 : Cond.methodLink RX5 71 yX5_numberOf ∈ lw_g := q_g (q_t3 (List.mem_of_getElem? (i := 124) (by rfl))) (by rfl)
theorem q_s_yX5_numberOf : Cond.static yX5_numberOf ∈ lw_g := q_g (q_t3 (List.mem_of_getElem? (i := 125) (by rfl))) (by rfl)
theorem q_c_yX5_numberOf : Cond.code yX5_numberOf cX5_numberOf 1 (some .int) ∈ lw_g := q_g (q_t3 (List.mem_of_getElem? (i := 126) (by rfl))) (by rfl)
theorem q_m_X5_115 : Cond.methodLink RX5 115 yX5_placeForHead ∈ lw_g := q_g (q_t3 (List.mem_of_getElem? (i := 127) (by rfl))) (by rfl)
theorem q_i_yX5_placeForHead : Cond.instanceMethod yX5_placeForHead ∈ lw_g := q_g (q_t3 (List.mem_of_getElem? (i := 129) (by rfl))) (by rfl)
theorem q_c_yX5_placeForHead : Cond.code yX5_placeForHead cX5_placeForHead 5 (some .int) ∈ lw_g := q_g (q_t3 (List.mem_of_getElem? (i := 130) (by rfl))) (by rfl)
theorem q_m_L_26 : Cond.methodLink RL 26 yX5_append ∈ lw_g := q_g (q_t3 (List.mem_of_getElem? (i := 131) (by rfl))) (by rfl)
theorem q_i_yX5_append : Cond.instanceMethod yX5_append ∈ lw_g := q_g (q_t3 (List.mem_of_getElem? (i := 132) (by rfl))) (by rfl)
theorem q_x_yX5_append : Cond.selects RX5 yX5_append yX5_append ∈ lw_g := q_g (q_t3 (List.mem_of_getElem? (i := 133) (by rfl))) (by rfl)
theorem q_c_yX5_append : Cond.code yX5_append cX5_append 4 (some .int) ∈ lw_g := q_g (q_t3 (List.mem_of_getElem? (i := 134) (by rfl))) (by rfl)
theorem q_m_X5_151 : Cond.methodLink RX5 151 yX5_takeText ∈ lw_g := q_g (q_t3 (List.mem_of_getElem? (i := 135) (by rfl))) (by rfl)
theorem q_i_yX5_takeText : Cond.instanceMethod yX5_takeText ∈ lw_g := q_g (q_t3 (List.mem_of_getElem? (i := 137) (by rfl))) (by rfl)
theorem q_c_yX5_takeText : Cond.code yX5_takeText cX5_takeText 3 none ∈ lw_g := q_g (q_t3 (List.mem_of_getElem? (i := 138) (by rfl))) (by rfl)
theorem q_m_X5_88 : Cond.methodLink RX5 88 yX5_letterAt ∈ lw_g := q_g (q_t3 (List.mem_of_getElem? (i := 139) (by rfl))) (by rfl)
theorem q_i_yX5_letterAt : Cond.instanceMethod yX5_letterAt ∈ lw_g := q_g (q_t3 (List.mem_of_getElem? (i := 141) (by rfl))) (by rfl)
theorem q_c_yX5_letterAt : Cond.code yX5_letterAt cX5_letterAt 3 (some .int) ∈ lw_g := q_g (q_t3 (List.mem_of_getElem? (i := 142) (by rfl))) (by rfl)
theorem q_m_L_31 : Cond.methodLink RL 31 yX5_delete ∈ lw_g := q_g (q_t3 (List.mem_of_getElem? (i := 143) (by rfl))) (by rfl)
theorem q_i_yX5_delete : Cond.instanceMethod yX5_delete ∈ lw_g := q_g (q_t3 (List.mem_of_getElem? (i := 144) (by rfl))) (by rfl)
theorem q_x_yX5_delete : Cond.selects RX5 yX5_delete yX5_delete ∈ lw_g := q_g (q_t3 (List.mem_of_getElem? (i := 145) (by rfl))) (by rfl)
theorem q_c_yX5_delete : Cond.code yX5_delete cX5_delete 5 (some .int) ∈ lw_g := q_g (q_t3 (List.mem_of_getElem? (i := 146) (by rfl))) (by rfl)
theorem q_m_X5_154 : Cond.methodLink RX5 154 yX5_cellsOfRow ∈ lw_g := q_g (q_t3 (List.mem_of_getElem? (i := 147) (by rfl))) (by rfl)
theorem q_i_yX5_cellsOfRow : Cond.instanceMethod yX5_cellsOfRow ∈ lw_g := q_g (q_t3 (List.mem_of_getElem? (i := 149) (by rfl))) (by rfl)
theorem q_c_yX5_cellsOfRow : Cond.code yX5_cellsOfRow cX5_cellsOfRow 4 (some .int) ∈ lw_g := q_g (q_t3 (List.mem_of_getElem? (i := 150) (by rfl))) (by rfl)
theorem q_m_X5_78 : Cond.methodLink RX5 78 yX5_headOf ∈ lw_g := q_g (q_t3 (List.mem_of_getElem? (i := 151) (by rfl))) (by rfl)
theorem q_i_yX5_headOf : Cond.instanceMethod yX5_headOf ∈ lw_g := q_g (q_t3 (List.mem_of_getElem? (i := 153) (by rfl))) (by rfl)
theorem q_c_yX5_headOf : Cond.code yX5_headOf cX5_headOf 2 (some .int) ∈ lw_g := q_g (q_t3 (List.mem_of_getElem? (i := 154) (by rfl))) (by rfl)
theorem q_m_X5_81 : Cond.methodLink RX5 81 yX5_hasMoved ∈ lw_g := q_g (q_t3 (List.mem_of_getElem? (i := 155) (by rfl))) (by rfl)
theorem q_i_yX5_hasMoved : Cond.instanceMethod yX5_hasMoved ∈ lw_g := q_g (q_t3 (List.mem_of_getElem? (i := 157) (by rfl))) (by rfl)
theorem q_c_yX5_hasMoved : Cond.code yX5_hasMoved cX5_hasMoved 2 (some .boolean) ∈ lw_g := q_g (q_t3 (List.mem_of_getElem? (i := 158) (by rfl))) (by rfl)
theorem q_m_L_35 : Cond.methodLink RL 35 yX5_pack ∈ lw_g := q_g (q_t3 (List.mem_of_getElem? (i := 159) (by rfl))) (by rfl)
theorem q_i_yX5_pack : Cond.instanceMethod yX5_pack ∈ lw_g := q_g (q_t3 (List.mem_of_getElem? (i := 160) (by rfl))) (by rfl)
theorem q_x_yX5_pack : Cond.selects RX5 yX5_pack yX5_pack ∈ lw_g := q_g (q_t3 (List.mem_of_getElem? (i := 161) (by rfl))) (by rfl)
theorem q_c_yX5_pack : Cond.code yX5_pack cX5_pack 1 (some .int) ∈ lw_g := q_g (q_t3 (List.mem_of_getElem? (i := 162) (by rfl))) (by rfl)
theorem q_m_X5_163 : Cond.methodLink RX5 163 yX5_packs ∈ lw_g := q_g (q_t3 (List.mem_of_getElem? (i := 163) (by rfl))) (by rfl)
theorem q_i_yX5_packs : Cond.instanceMethod yX5_packs ∈ lw_g := q_g (q_t3 (List.mem_of_getElem? (i := 165) (by rfl))) (by rfl)
theorem q_c_yX5_packs : Cond.code yX5_packs cX5_packs 4 (some .boolean) ∈ lw_g := q_g (q_t3 (List.mem_of_getElem? (i := 166) (by rfl))) (by rfl)
theorem q_m_X5_157 : Cond.methodLink RX5 157 yX5_keyAt ∈ lw_g := q_g (q_t3 (List.mem_of_getElem? (i := 167) (by rfl))) (by rfl)
theorem q_i_yX5_keyAt : Cond.instanceMethod yX5_keyAt ∈ lw_g := q_g (q_t3 (List.mem_of_getElem? (i := 169) (by rfl))) (by rfl)
theorem q_c_yX5_keyAt : Cond.code yX5_keyAt cX5_keyAt 4 (some .int) ∈ lw_g := q_g (q_t3 (List.mem_of_getElem? (i := 170) (by rfl))) (by rfl)
theorem q_m_X5_167 : Cond.methodLink RX5 167 yX5_pagesWith ∈ lw_g := q_g (q_t3 (List.mem_of_getElem? (i := 171) (by rfl))) (by rfl)
theorem q_i_yX5_pagesWith : Cond.instanceMethod yX5_pagesWith ∈ lw_g := q_g (q_t3 (List.mem_of_getElem? (i := 173) (by rfl))) (by rfl)
theorem q_c_yX5_pagesWith : Cond.code yX5_pagesWith cX5_pagesWith 3 (some .int) ∈ lw_g := q_g (q_t3 (List.mem_of_getElem? (i := 174) (by rfl))) (by rfl)
theorem q_m_X5_160 : Cond.methodLink RX5 160 yX5_slotsOf ∈ lw_g := q_g (q_t3 (List.mem_of_getElem? (i := 175) (by rfl))) (by rfl)
theorem q_i_yX5_slotsOf : Cond.instanceMethod yX5_slotsOf ∈ lw_g := q_g (q_t3 (List.mem_of_getElem? (i := 177) (by rfl))) (by rfl)
theorem q_c_yX5_slotsOf : Cond.code yX5_slotsOf cX5_slotsOf 4 (some .int) ∈ lw_g := q_g (q_t3 (List.mem_of_getElem? (i := 178) (by rfl))) (by rfl)
theorem q_m_L_39 : Cond.methodLink RL 39 yX5_row ∈ lw_g := q_g (q_t3 (List.mem_of_getElem? (i := 179) (by rfl))) (by rfl)
theorem q_i_yX5_row : Cond.instanceMethod yX5_row ∈ lw_g := q_g (q_t3 (List.mem_of_getElem? (i := 180) (by rfl))) (by rfl)
theorem q_x_yX5_row : Cond.selects RX5 yX5_row yX5_row ∈ lw_g := q_g (q_t3 (List.mem_of_getElem? (i := 181) (by rfl))) (by rfl)
theorem q_c_yX5_row : Cond.code yX5_row cX5_row 4 (some .int) ∈ lw_g := q_g (q_t3 (List.mem_of_getElem? (i := 182) (by rfl))) (by rfl)
theorem q_m_X5_170 : Cond.methodLink RX5 170 yX5_costOf ∈ lw_g := q_g (q_t3 (List.mem_of_getElem? (i := 183) (by rfl))) (by rfl)
theorem q_i_yX5_costOf : Cond.instanceMethod yX5_costOf ∈ lw_g := q_g (q_t3 (List.mem_of_getElem? (i := 185) (by rfl))) (by rfl)
theorem q_c_yX5_costOf : Cond.code yX5_costOf cX5_costOf 6 (some .int) ∈ lw_g := q_g (q_t3 (List.mem_of_getElem? (i := 186) (by rfl))) (by rfl)
theorem q_m_L_43 : Cond.methodLink RL 43 yX5_letter ∈ lw_g := q_g (q_t3 (List.mem_of_getElem? (i := 187) (by rfl))) (by rfl)
theorem q_i_yX5_letter : Cond.instanceMethod yX5_letter ∈ lw_g := q_g (q_t3 (List.mem_of_getElem? (i := 188) (by rfl))) (by rfl)
theorem q_x_yX5_letter : Cond.selects RX5 yX5_letter yX5_letter ∈ lw_g := q_g (q_t3 (List.mem_of_getElem? (i := 189) (by rfl))) (by rfl)
theorem q_c_yX5_letter : Cond.code yX5_letter cX5_letter 4 (some .int) ∈ lw_g := q_g (q_t3 (List.mem_of_getElem? (i := 190) (by rfl))) (by rfl)
theorem q_m_L_48 : Cond.methodLink RL 48 yX5_piece ∈ lw_g := q_g (q_t3 (List.mem_of_getElem? (i := 191) (by rfl))) (by rfl)
theorem q_i_yX5_piece : Cond.instanceMethod yX5_piece ∈ lw_g := q_g (q_t3 (List.mem_of_getElem? (i := 192) (by rfl))) (by rfl)
theorem q_x_yX5_piece : Cond.selects RX5 yX5_piece yX5_piece ∈ lw_g := q_g (q_t3 (List.mem_of_getElem? (i := 193) (by rfl))) (by rfl)
theorem q_c_yX5_piece : Cond.code yX5_piece cX5_piece 5 (some .int) ∈ lw_g := q_g (q_t3 (List.mem_of_getElem? (i := 194) (by rfl))) (by rfl)
theorem q_m_L_52 : Cond.methodLink RL 52 yX5_page ∈ lw_g := q_g (q_t3 (List.mem_of_getElem? (i := 195) (by rfl))) (by rfl)
theorem q_i_yX5_page : Cond.instanceMethod yX5_page ∈ lw_g := q_g (q_t3 (List.mem_of_getElem? (i := 196) (by rfl))) (by rfl)
theorem q_x_yX5_page : Cond.selects RX5 yX5_page yX5_page ∈ lw_g := q_g (q_t3 (List.mem_of_getElem? (i := 197) (by rfl))) (by rfl)
theorem q_c_yX5_page : Cond.code yX5_page cX5_page 3 (some .int) ∈ lw_g := q_g (q_t3 (List.mem_of_getElem? (i := 198) (by rfl))) (by rfl)
theorem q_m_X5_173 : Cond.methodLink RX5 173 yX5_thingsOn ∈ lw_g := q_g (q_t3 (List.mem_of_getElem? (i := 199) (by rfl))) (by rfl)
theorem q_i_yX5_thingsOn : Cond.instanceMethod yX5_thingsOn ∈ lw_g := q_g (q_t3 (List.mem_of_getElem? (i := 201) (by rfl))) (by rfl)
theorem q_c_yX5_thingsOn : Cond.code yX5_thingsOn cX5_thingsOn 6 (some .int) ∈ lw_g := q_g (q_t3 (List.mem_of_getElem? (i := 202) (by rfl))) (by rfl)
theorem q_m_L_56 : Cond.methodLink RL 56 yX5_slot ∈ lw_g := q_g (q_t3 (List.mem_of_getElem? (i := 203) (by rfl))) (by rfl)
theorem q_i_yX5_slot : Cond.instanceMethod yX5_slot ∈ lw_g := q_g (q_t3 (List.mem_of_getElem? (i := 204) (by rfl))) (by rfl)
theorem q_x_yX5_slot : Cond.selects RX5 yX5_slot yX5_slot ∈ lw_g := q_g (q_t3 (List.mem_of_getElem? (i := 205) (by rfl))) (by rfl)
theorem q_c_yX5_slot : Cond.code yX5_slot cX5_slot 5 (some .int) ∈ lw_g := q_g (q_t3 (List.mem_of_getElem? (i := 206) (by rfl))) (by rfl)
theorem q_m_L_60 : Cond.methodLink RL 60 yX5_count ∈ lw_g := q_g (q_t3 (List.mem_of_getElem? (i := 207) (by rfl))) (by rfl)
theorem q_i_yX5_count : Cond.instanceMethod yX5_count ∈ lw_g := q_g (q_t3 (List.mem_of_getElem? (i := 208) (by rfl))) (by rfl)
theorem q_x_yX5_count : Cond.selects RX5 yX5_count yX5_count ∈ lw_g := q_g (q_t3 (List.mem_of_getElem? (i := 209) (by rfl))) (by rfl)
theorem q_c_yX5_count : Cond.code yX5_count cX5_count 2 (some .int) ∈ lw_g := q_g (q_t3 (List.mem_of_getElem? (i := 210) (by rfl))) (by rfl)
theorem q_m_X5_176 : Cond.methodLink RX5 176 yX5_thingsOf ∈ lw_g := q_g (q_t3 (List.mem_of_getElem? (i := 211) (by rfl))) (by rfl)
theorem q_i_yX5_thingsOf : Cond.instanceMethod yX5_thingsOf ∈ lw_g := q_g (q_t3 (List.mem_of_getElem? (i := 213) (by rfl))) (by rfl)
theorem q_c_yX5_thingsOf : Cond.code yX5_thingsOf cX5_thingsOf 4 (some .int) ∈ lw_g := q_g (q_t3 (List.mem_of_getElem? (i := 214) (by rfl))) (by rfl)
theorem q_m_X5_179 : Cond.methodLink RX5 179 yX5_allFree ∈ lw_g := q_g (q_t3 (List.mem_of_getElem? (i := 215) (by rfl))) (by rfl)
theorem q_i_yX5_allFree : Cond.instanceMethod yX5_allFree ∈ lw_g := q_g (q_t3 (List.mem_of_getElem? (i := 217) (by rfl))) (by rfl)
theorem q_c_yX5_allFree : Cond.code yX5_allFree cX5_allFree 3 (some .int) ∈ lw_g := q_g (q_t3 (List.mem_of_getElem? (i := 218) (by rfl))) (by rfl)
theorem q_m_X5_182 : Cond.methodLink RX5 182 yX5_sumOfCosts ∈ lw_g := q_g (q_t3 (List.mem_of_getElem? (i := 219) (by rfl))) (by rfl)
theorem q_i_yX5_sumOfCosts : Cond.instanceMethod yX5_sumOfCosts ∈ lw_g := q_g (q_t3 (List.mem_of_getElem? (i := 221) (by rfl))) (by rfl)
theorem q_c_yX5_sumOfCosts : Cond.code yX5_sumOfCosts cX5_sumOfCosts 3 (some .int) ∈ lw_g := q_g (q_t3 (List.mem_of_getElem? (i := 222) (by rfl))) (by rfl)
theorem q_m_X5_185 : Cond.methodLink RX5 185 yX5_allLetters ∈ lw_g := q_g (q_t3 (List.mem_of_getElem? (i := 223) (by rfl))) (by rfl)
theorem q_i_yX5_allLetters : Cond.instanceMethod yX5_allLetters ∈ lw_g := q_g (q_t3 (List.mem_of_getElem? (i := 225) (by rfl))) (by rfl)
theorem q_c_yX5_allLetters : Cond.code yX5_allLetters cX5_allLetters 3 (some .int) ∈ lw_g := q_g (q_t3 (List.mem_of_getElem? (i := 226) (by rfl))) (by rfl)
theorem q_m_X5_188 : Cond.methodLink RX5 188 yX5_greatestCost ∈ lw_g := q_g (q_t3 (List.mem_of_getElem? (i := 227) (by rfl))) (by rfl)
theorem q_i_yX5_greatestCost : Cond.instanceMethod yX5_greatestCost ∈ lw_g := q_g (q_t3 (List.mem_of_getElem? (i := 229) (by rfl))) (by rfl)
theorem q_c_yX5_greatestCost : Cond.code yX5_greatestCost cX5_greatestCost 3 (some .int) ∈ lw_g := q_g (q_t3 (List.mem_of_getElem? (i := 230) (by rfl))) (by rfl)
theorem q_m_L_64 : Cond.methodLink RL 64 yX5_key ∈ lw_g := q_g (q_t3 (List.mem_of_getElem? (i := 231) (by rfl))) (by rfl)
theorem q_i_yX5_key : Cond.instanceMethod yX5_key ∈ lw_g := q_g (q_t3 (List.mem_of_getElem? (i := 232) (by rfl))) (by rfl)
theorem q_x_yX5_key : Cond.selects RX5 yX5_key yX5_key ∈ lw_g := q_g (q_t3 (List.mem_of_getElem? (i := 233) (by rfl))) (by rfl)
theorem q_c_yX5_key : Cond.code yX5_key cX5_key 2 (some .int) ∈ lw_g := q_g (q_t3 (List.mem_of_getElem? (i := 234) (by rfl))) (by rfl)
theorem q_m_L_68 : Cond.methodLink RL 68 yX5_ifPacked ∈ lw_g := q_g (q_t3 (List.mem_of_getElem? (i := 235) (by rfl))) (by rfl)
theorem q_i_yX5_ifPacked : Cond.instanceMethod yX5_ifPacked ∈ lw_g := q_g (q_t3 (List.mem_of_getElem? (i := 236) (by rfl))) (by rfl)
theorem q_x_yX5_ifPacked : Cond.selects RX5 yX5_ifPacked yX5_ifPacked ∈ lw_g := q_g (q_t3 (List.mem_of_getElem? (i := 237) (by rfl))) (by rfl)
theorem q_c_yX5_ifPacked : Cond.code yX5_ifPacked cX5_ifPacked 3 (some .int) ∈ lw_g := q_g (q_t3 (List.mem_of_getElem? (i := 238) (by rfl))) (by rfl)
theorem q_m_X5_191 : Cond.methodLink RX5 191 yX5_packedWith ∈ lw_g := q_g (q_t3 (List.mem_of_getElem? (i := 239) (by rfl))) (by rfl)
theorem q_i_yX5_packedWith : Cond.instanceMethod yX5_packedWith ∈ lw_g := q_g (q_t4 (List.mem_of_getElem? (i := 1) (by rfl))) (by rfl)
theorem q_c_yX5_packedWith : Cond.code yX5_packedWith cX5_packedWith 4 (some .int) ∈ lw_g := q_g (q_t4 (List.mem_of_getElem? (i := 2) (by rfl))) (by rfl)
theorem q_m_L_72 : Cond.methodLink RL 72 yX5_bestHead ∈ lw_g := q_g (q_t4 (List.mem_of_getElem? (i := 3) (by rfl))) (by rfl)
theorem q_i_yX5_bestHead : Cond.instanceMethod yX5_bestHead ∈ lw_g := q_g (q_t4 (List.mem_of_getElem? (i := 4) (by rfl))) (by rfl)
theorem q_x_yX5_bestHead : Cond.selects RX5 yX5_bestHead yX5_bestHead ∈ lw_g := q_g (q_t4 (List.mem_of_getElem? (i := 5) (by rfl))) (by rfl)
theorem q_c_yX5_bestHead : Cond.code yX5_bestHead cX5_bestHead 6 (some .int) ∈ lw_g := q_g (q_t4 (List.mem_of_getElem? (i := 6) (by rfl))) (by rfl)
theorem q_m_L_76 : Cond.methodLink RL 76 yX5_most ∈ lw_g := q_g (q_t4 (List.mem_of_getElem? (i := 7) (by rfl))) (by rfl)
theorem q_i_yX5_most : Cond.instanceMethod yX5_most ∈ lw_g := q_g (q_t4 (List.mem_of_getElem? (i := 8) (by rfl))) (by rfl)
theorem q_x_yX5_most : Cond.selects RX5 yX5_most yX5_most ∈ lw_g := q_g (q_t4 (List.mem_of_getElem? (i := 9) (by rfl))) (by rfl)
theorem q_c_yX5_most : Cond.code yX5_most cX5_most 4 (some .int) ∈ lw_g := q_g (q_t4 (List.mem_of_getElem? (i := 10) (by rfl))) (by rfl)
theorem q_m_L_83 : Cond.methodLink RL 83 yX5_put ∈ lw_g := q_g (q_t4 (List.mem_of_getElem? (i := 11) (by rfl))) (by rfl)
theorem q_i_yX5_put : Cond.instanceMethod yX5_put ∈ lw_g := q_g (q_t4 (List.mem_of_getElem? (i := 12) (by rfl))) (by rfl)
theorem q_x_yX5_put : Cond.selects RX5 yX5_put yX5_put ∈ lw_g := q_g (q_t4 (List.mem_of_getElem? (i := 13) (by rfl))) (by rfl)
theorem q_c_yX5_put : Cond.code yX5_put cX5_put 8 (some .int) ∈ lw_g := q_g (q_t4 (List.mem_of_getElem? (i := 14) (by rfl))) (by rfl)
theorem q_k_X5_194 : Cond.constantLong RX5 194 (255 : Int64) ∈ lw_g := q_g (q_t4 (List.mem_of_getElem? (i := 15) (by rfl))) (by rfl)
theorem q_m_L_87 : Cond.methodLink RL 87 yX5_wipe ∈ lw_g := q_g (q_t4 (List.mem_of_getElem? (i := 16) (by rfl))) (by rfl)
theorem q_i_yX5_wipe : Cond.instanceMethod yX5_wipe ∈ lw_g := q_g (q_t4 (List.mem_of_getElem? (i := 17) (by rfl))) (by rfl)
theorem q_x_yX5_wipe : Cond.selects RX5 yX5_wipe yX5_wipe ∈ lw_g := q_g (q_t4 (List.mem_of_getElem? (i := 18) (by rfl))) (by rfl)
theorem q_c_yX5_wipe : Cond.code yX5_wipe cX5_wipe 2 (some .int) ∈ lw_g := q_g (q_t4 (List.mem_of_getElem? (i := 19) (by rfl))) (by rfl)
theorem q_m_L_91 : Cond.methodLink RL 91 yX5_fault ∈ lw_g := q_g (q_t4 (List.mem_of_getElem? (i := 20) (by rfl))) (by rfl)
theorem q_i_yX5_fault : Cond.instanceMethod yX5_fault ∈ lw_g := q_g (q_t4 (List.mem_of_getElem? (i := 21) (by rfl))) (by rfl)
theorem q_x_yX5_fault : Cond.selects RX5 yX5_fault yX5_fault ∈ lw_g := q_g (q_t4 (List.mem_of_getElem? (i := 22) (by rfl))) (by rfl)
theorem q_c_yX5_fault : Cond.code yX5_fault cX5_fault 1 (some .int) ∈ lw_g := q_g (q_t4 (List.mem_of_getElem? (i := 23) (by rfl))) (by rfl)
theorem q_m_L_95 : Cond.methodLink RL 95 yX5_undo ∈ lw_g := q_g (q_t4 (List.mem_of_getElem? (i := 24) (by rfl))) (by rfl)
theorem q_i_yX5_undo : Cond.instanceMethod yX5_undo ∈ lw_g := q_g (q_t4 (List.mem_of_getElem? (i := 25) (by rfl))) (by rfl)
theorem q_x_yX5_undo : Cond.selects RX5 yX5_undo yX5_undo ∈ lw_g := q_g (q_t4 (List.mem_of_getElem? (i := 26) (by rfl))) (by rfl)
theorem q_c_yX5_undo : Cond.code yX5_undo cX5_undo 1 (some .int) ∈ lw_g := q_g (q_t4 (List.mem_of_getElem? (i := 27) (by rfl))) (by rfl)
theorem q_m_L_99 : Cond.methodLink RL 99 yX5_save ∈ lw_g := q_g (q_t4 (List.mem_of_getElem? (i := 28) (by rfl))) (by rfl)
theorem q_i_yX5_save : Cond.instanceMethod yX5_save ∈ lw_g := q_g (q_t4 (List.mem_of_getElem? (i := 29) (by rfl))) (by rfl)
theorem q_x_yX5_save : Cond.selects RX5 yX5_save yX5_save ∈ lw_g := q_g (q_t4 (List.mem_of_getElem? (i := 30) (by rfl))) (by rfl)
theorem q_c_yX5_save : Cond.code yX5_save cX5_save 2 (some .int) ∈ lw_g := q_g (q_t4 (List.mem_of_getElem? (i := 31) (by rfl))) (by rfl)
theorem q_m_L_103 : Cond.methodLink RL 103 yX5_restore ∈ lw_g := q_g (q_t4 (List.mem_of_getElem? (i := 32) (by rfl))) (by rfl)
theorem q_i_yX5_restore : Cond.instanceMethod yX5_restore ∈ lw_g := q_g (q_t4 (List.mem_of_getElem? (i := 33) (by rfl))) (by rfl)
theorem q_x_yX5_restore : Cond.selects RX5 yX5_restore yX5_restore ∈ lw_g := q_g (q_t4 (List.mem_of_getElem? (i := 34) (by rfl))) (by rfl)
theorem q_c_yX5_restore : Cond.code yX5_restore cX5_restore 2 (some .int) ∈ lw_g := q_g (q_t4 (List.mem_of_getElem? (i := 35) (by rfl))) (by rfl)
theorem q_k_L_77 : Cond.constantLong RL 77 (4294967295 : Int64) ∈ lw_g := q_g (q_t4 (List.mem_of_getElem? (i := 36) (by rfl))) (by rfl)
theorem q_x_yX4_setHead : Cond.selects RX4 yX4_setHead yX4_setHead ∈ lw_g := q_g (List.mem_append_left _ (List.mem_of_getElem? (i := 0) (by rfl))) (by rfl)
theorem q_x_yX4_setPiece : Cond.selects RX4 yX4_setPiece yX4_setPiece ∈ lw_g := q_g (List.mem_append_left _ (List.mem_of_getElem? (i := 1) (by rfl))) (by rfl)
theorem q_x_yX2_awaitKey : Cond.selects RX2 yX2_awaitKey yX2_awaitKey ∈ lw_g := q_g (List.mem_append_left _ (List.mem_of_getElem? (i := 2) (by rfl))) (by rfl)
theorem q_x_yX2_readInText : Cond.selects RX2 yX2_readInText yX2_readInText ∈ lw_g := q_g (List.mem_append_left _ (List.mem_of_getElem? (i := 3) (by rfl))) (by rfl)
theorem q_x_yX2_readInKey : Cond.selects RX2 yX2_readInKey yX2_readInKey ∈ lw_g := q_g (List.mem_append_left _ (List.mem_of_getElem? (i := 4) (by rfl))) (by rfl)
theorem q_x_yX2_startText : Cond.selects RX2 yX2_startText yX2_startText ∈ lw_g := q_g (List.mem_append_left _ (List.mem_of_getElem? (i := 5) (by rfl))) (by rfl)
theorem q_x_yX4_writePadRow : Cond.selects RX4 yX4_writePadRow yX4_writePadRow ∈ lw_g := q_g (List.mem_append_left _ (List.mem_of_getElem? (i := 6) (by rfl))) (by rfl)
theorem q_x_yX0_addRow : Cond.selects RX0 yX0_addRow yX0_addRow ∈ lw_g := q_g (List.mem_append_left _ (List.mem_of_getElem? (i := 7) (by rfl))) (by rfl)
theorem q_x_yX0_layNew : Cond.selects RX0 yX0_layNew yX0_layNew ∈ lw_g := q_g (List.mem_append_left _ (List.mem_of_getElem? (i := 8) (by rfl))) (by rfl)
theorem q_x_yX0_headCells : Cond.selects RX0 yX0_headCells yX0_headCells ∈ lw_g := q_g (List.mem_append_left _ (List.mem_of_getElem? (i := 9) (by rfl))) (by rfl)
theorem q_x_yX0_headLetters : Cond.selects RX0 yX0_headLetters yX0_headLetters ∈ lw_g := q_g (List.mem_append_left _ (List.mem_of_getElem? (i := 10) (by rfl))) (by rfl)
theorem q_x_yX3_lowestGap : Cond.selects RX3 yX3_lowestGap yX3_lowestGap ∈ lw_g := q_g (List.mem_append_left _ (List.mem_of_getElem? (i := 11) (by rfl))) (by rfl)
theorem q_x_yX0_layPieces : Cond.selects RX0 yX0_layPieces yX0_layPieces ∈ lw_g := q_g (List.mem_append_left _ (List.mem_of_getElem? (i := 12) (by rfl))) (by rfl)
theorem q_x_yX0_layAgain : Cond.selects RX0 yX0_layAgain yX0_layAgain ∈ lw_g := q_g (List.mem_append_left _ (List.mem_of_getElem? (i := 13) (by rfl))) (by rfl)
theorem q_x_yX0_liftPieces : Cond.selects RX0 yX0_liftPieces yX0_liftPieces ∈ lw_g := q_g (List.mem_append_left _ (List.mem_of_getElem? (i := 14) (by rfl))) (by rfl)
theorem q_x_yX0_layHeadAgain : Cond.selects RX0 yX0_layHeadAgain yX0_layHeadAgain ∈ lw_g := q_g (List.mem_append_left _ (List.mem_of_getElem? (i := 15) (by rfl))) (by rfl)
theorem q_x_yX4_takeTrial : Cond.selects RX4 yX4_takeTrial yX4_takeTrial ∈ lw_g := q_g (List.mem_append_left _ (List.mem_of_getElem? (i := 16) (by rfl))) (by rfl)
theorem q_x_yX4_tryPacking : Cond.selects RX4 yX4_tryPacking yX4_tryPacking ∈ lw_g := q_g (List.mem_append_left _ (List.mem_of_getElem? (i := 17) (by rfl))) (by rfl)
theorem q_x_yX5_record : Cond.selects RX5 yX5_record yX5_record ∈ lw_g := q_g (List.mem_append_left _ (List.mem_of_getElem? (i := 18) (by rfl))) (by rfl)
theorem q_x_yX5_findFault : Cond.selects RX5 yX5_findFault yX5_findFault ∈ lw_g := q_g (List.mem_append_left _ (List.mem_of_getElem? (i := 19) (by rfl))) (by rfl)
theorem q_x_yX5_writes : Cond.selects RX5 yX5_writes yX5_writes ∈ lw_g := q_g (List.mem_append_left _ (List.mem_of_getElem? (i := 20) (by rfl))) (by rfl)
theorem q_x_yX5_rowWith : Cond.selects RX5 yX5_rowWith yX5_rowWith ∈ lw_g := q_g (List.mem_append_left _ (List.mem_of_getElem? (i := 21) (by rfl))) (by rfl)
theorem q_x_yX5_part : Cond.selects RX5 yX5_part yX5_part ∈ lw_g := q_g (List.mem_append_left _ (List.mem_of_getElem? (i := 22) (by rfl))) (by rfl)
theorem q_x_yX5_freeRow : Cond.selects RX5 yX5_freeRow yX5_freeRow ∈ lw_g := q_g (List.mem_append_left _ (List.mem_of_getElem? (i := 23) (by rfl))) (by rfl)
theorem q_x_yX5_setPart : Cond.selects RX5 yX5_setPart yX5_setPart ∈ lw_g := q_g (List.mem_append_left _ (List.mem_of_getElem? (i := 24) (by rfl))) (by rfl)
theorem q_x_yX5_writeNew : Cond.selects RX5 yX5_writeNew yX5_writeNew ∈ lw_g := q_g (List.mem_append_left _ (List.mem_of_getElem? (i := 25) (by rfl))) (by rfl)
theorem q_x_yX5_headLetters : Cond.selects RX5 yX5_headLetters yX5_headLetters ∈ lw_g := q_g (List.mem_append_left _ (List.mem_of_getElem? (i := 26) (by rfl))) (by rfl)
theorem q_x_yX5_placed : Cond.selects RX5 yX5_placed yX5_placed ∈ lw_g := q_g (List.mem_append_left _ (List.mem_of_getElem? (i := 27) (by rfl))) (by rfl)
theorem q_x_yX5_freeOf : Cond.selects RX5 yX5_freeOf yX5_freeOf ∈ lw_g := q_g (List.mem_append_left _ (List.mem_of_getElem? (i := 28) (by rfl))) (by rfl)
theorem q_x_yX5_lowestEmpty : Cond.selects RX5 yX5_lowestEmpty yX5_lowestEmpty ∈ lw_g := q_g (List.mem_append_left _ (List.mem_of_getElem? (i := 29) (by rfl))) (by rfl)
theorem q_x_yX5_setText : Cond.selects RX5 yX5_setText yX5_setText ∈ lw_g := q_g (List.mem_append_left _ (List.mem_of_getElem? (i := 30) (by rfl))) (by rfl)
theorem q_x_yX5_putPieces : Cond.selects RX5 yX5_putPieces yX5_putPieces ∈ lw_g := q_g (List.mem_append_left _ (List.mem_of_getElem? (i := 31) (by rfl))) (by rfl)
theorem q_x_yX5_writeAgain : Cond.selects RX5 yX5_writeAgain yX5_writeAgain ∈ lw_g := q_g (List.mem_append_left _ (List.mem_of_getElem? (i := 32) (by rfl))) (by rfl)
theorem q_x_yX5_dropPieces : Cond.selects RX5 yX5_dropPieces yX5_dropPieces ∈ lw_g := q_g (List.mem_append_left _ (List.mem_of_getElem? (i := 33) (by rfl))) (by rfl)
theorem q_x_yX5_findPieces : Cond.selects RX5 yX5_findPieces yX5_findPieces ∈ lw_g := q_g (List.mem_append_left _ (List.mem_of_getElem? (i := 34) (by rfl))) (by rfl)
theorem q_x_yX5_placeForHead : Cond.selects RX5 yX5_placeForHead yX5_placeForHead ∈ lw_g := q_g (List.mem_append_left _ (List.mem_of_getElem? (i := 35) (by rfl))) (by rfl)
theorem q_x_yX5_takeText : Cond.selects RX5 yX5_takeText yX5_takeText ∈ lw_g := q_g (List.mem_append_left _ (List.mem_of_getElem? (i := 36) (by rfl))) (by rfl)
theorem q_x_yX5_letterAt : Cond.selects RX5 yX5_letterAt yX5_letterAt ∈ lw_g := q_g (List.mem_append_left _ (List.mem_of_getElem? (i := 37) (by rfl))) (by rfl)
theorem q_x_yX5_cellsOfRow : Cond.selects RX5 yX5_cellsOfRow yX5_cellsOfRow ∈ lw_g := q_g (List.mem_append_left _ (List.mem_of_getElem? (i := 38) (by rfl))) (by rfl)
theorem q_x_yX5_headOf : Cond.selects RX5 yX5_headOf yX5_headOf ∈ lw_g := q_g (List.mem_append_left _ (List.mem_of_getElem? (i := 39) (by rfl))) (by rfl)
theorem q_x_yX5_hasMoved : Cond.selects RX5 yX5_hasMoved yX5_hasMoved ∈ lw_g := q_g (List.mem_append_left _ (List.mem_of_getElem? (i := 40) (by rfl))) (by rfl)
theorem q_x_yX5_packs : Cond.selects RX5 yX5_packs yX5_packs ∈ lw_g := q_g (List.mem_append_left _ (List.mem_of_getElem? (i := 41) (by rfl))) (by rfl)
theorem q_x_yX5_keyAt : Cond.selects RX5 yX5_keyAt yX5_keyAt ∈ lw_g := q_g (List.mem_append_left _ (List.mem_of_getElem? (i := 42) (by rfl))) (by rfl)
theorem q_x_yX5_pagesWith : Cond.selects RX5 yX5_pagesWith yX5_pagesWith ∈ lw_g := q_g (List.mem_append_left _ (List.mem_of_getElem? (i := 43) (by rfl))) (by rfl)
theorem q_x_yX5_slotsOf : Cond.selects RX5 yX5_slotsOf yX5_slotsOf ∈ lw_g := q_g (List.mem_append_left _ (List.mem_of_getElem? (i := 44) (by rfl))) (by rfl)
theorem q_x_yX5_costOf : Cond.selects RX5 yX5_costOf yX5_costOf ∈ lw_g := q_g (List.mem_append_left _ (List.mem_of_getElem? (i := 45) (by rfl))) (by rfl)
theorem q_x_yX5_thingsOn : Cond.selects RX5 yX5_thingsOn yX5_thingsOn ∈ lw_g := q_g (List.mem_append_left _ (List.mem_of_getElem? (i := 46) (by rfl))) (by rfl)
theorem q_x_yX5_thingsOf : Cond.selects RX5 yX5_thingsOf yX5_thingsOf ∈ lw_g := q_g (List.mem_append_left _ (List.mem_of_getElem? (i := 47) (by rfl))) (by rfl)
theorem q_x_yX5_allFree : Cond.selects RX5 yX5_allFree yX5_allFree ∈ lw_g := q_g (List.mem_append_left _ (List.mem_of_getElem? (i := 48) (by rfl))) (by rfl)
theorem q_x_yX5_sumOfCosts : Cond.selects RX5 yX5_sumOfCosts yX5_sumOfCosts ∈ lw_g := q_g (List.mem_append_left _ (List.mem_of_getElem? (i := 49) (by rfl))) (by rfl)
theorem q_x_yX5_allLetters : Cond.selects RX5 yX5_allLetters yX5_allLetters ∈ lw_g := q_g (List.mem_append_left _ (List.mem_of_getElem? (i := 50) (by rfl))) (by rfl)
theorem q_x_yX5_greatestCost : Cond.selects RX5 yX5_greatestCost yX5_greatestCost ∈ lw_g := q_g (List.mem_append_left _ (List.mem_of_getElem? (i := 51) (by rfl))) (by rfl)
theorem q_x_yX5_packedWith : Cond.selects RX5 yX5_packedWith yX5_packedWith ∈ lw_g := q_g (List.mem_append_left _ (List.mem_of_getElem? (i := 52) (by rfl))) (by rfl)
theorem q_w_X0 : ∀ w ∈ wsX00, w ∈ lw_g := by decide +kernel
theorem q_w_X1 : ∀ w ∈ wsX10, w ∈ lw_g := by decide +kernel
theorem q_w_X2 : ∀ w ∈ wsX20, w ∈ lw_g := by decide +kernel
theorem q_w_X3 : ∀ w ∈ wsX30, w ∈ lw_g := by decide +kernel
theorem q_w_X4 : ∀ w ∈ wsX40, w ∈ lw_g := by decide +kernel
theorem q_w_X5 : ∀ w ∈ wsX50, w ∈ lw_g := by decide +kernel
end
section
/-! THE ABSTRACT STATE: blocks of cells that lie side by side from an address on; what they hold are integers -/
abbrev Blk : Type := Nat → Nat → Int
abbrev Gt : Type := va_G × ClassId × ClassId × ClassId
abbrev Lay : Type := Nat → (Nat → Int) → va_E
abbrev inR (a : Int) : Prop := -2147483648 ≤ a ∧ a ≤ 2147483647
abbrev vI (a : Int) : Value := .int (Int32.ofInt a)
def Rg (σ : Blk) : Prop := ∀ c j, inR (σ c j)
def up2 (σ : Blk) (c k : Nat) (v : Int) : Blk := fun i j => if i = c ∧ j = k then v else σ i j
theorem Rg_up {σ : Blk} {c k : Nat} {v : Int} (h : Rg σ) (hv : inR v) : Rg (up2 σ c k v) := by
  intro i j
  unfold up2
  split
  · exact hv
  · exact h i j
theorem up2_ne {σ : Blk} {c k i : Nat} {v : Int} (h : i ≠ c) : up2 σ c k v i = σ i := by
  funext j
  simp [up2, h]
theorem up2_at {σ : Blk} {c k : Nat} {v : Int} : up2 σ c k v c = fun j => if j = k then v else σ c j := by
  funext j
  simp [up2]
theorem i32_of {a : Int} (h : inR a) : (Int32.ofInt a).toInt = a := Int32.toInt_ofInt_of_le (by omega) (by omega)
theorem i32_to (x : Int32) : Int32.ofInt x.toInt = x := Int32.ofInt_toInt x
theorem i32_in (x : Int32) : inR x.toInt := ⟨by have := Int32.le_toInt x; omega, by have := Int32.toInt_lt x; omega⟩
theorem inR_c (a : Int) (h : (decide (-2147483648 ≤ a) && decide (a ≤ 2147483647)) = true) : inR a := by
  simp only [Bool.and_eq_true, decide_eq_true_eq] at h
  exact h
theorem i32_lt {a b : Int} (ha : inR a) (hb : inR b) : Int32.ofInt a < Int32.ofInt b ↔ a < b := by
  rw [Int32.lt_iff_toInt_lt, i32_of ha, i32_of hb]
theorem i32_le {a b : Int} (ha : inR a) (hb : inR b) : Int32.ofInt a ≤ Int32.ofInt b ↔ a ≤ b := by
  rw [Int32.le_iff_toInt_le, i32_of ha, i32_of hb]
theorem i32_eq {a b : Int} (ha : inR a) (hb : inR b) : Int32.ofInt a = Int32.ofInt b ↔ a = b := by
  rw [← Int32.toInt_inj, i32_of ha, i32_of hb]
theorem i32_nat {a : Int} (ha : inR a) : (Int32.ofInt a).toNatClampNeg = a.toNat := by
  show ((Int32.ofInt a).toInt).toNat = a.toNat
  rw [i32_of ha]
theorem i32_vin {a : Int} {n : Nat} (h0 : 0 ≤ a) (h1 : a < n) (hn : n ≤ 2147483647) : vp_in (Int32.ofInt a) n := by
  rw [vp_in_iff, i32_of ⟨by omega, by omega⟩]
  exact ⟨h0, h1⟩
/-! the operations of the pictures of methods: none where the machine would throw, or an int would not fit -/
def ck (a : Int) : Option Int := if inR a then some a else none
def ckB (a : Int) : Option Int := if a = 0 ∨ a = 1 then some a else none
def ld (σ : Blk) (c n : Nat) (i : Int) : Option Int := if 0 ≤ i ∧ i < (n : Int) then some (σ c i.toNat) else none
def sw (σ : Blk) (c n : Nat) (i v : Int) : Option Blk := if 0 ≤ i ∧ i < (n : Int) then some (up2 σ c i.toNat v) else none
def dv (a d : Int) : Option Int := if 0 ≤ a then some (a / d) else none
def rm_ (a d : Int) : Option Int := if 0 ≤ a then some (a % d) else none
def jp {γ δ : Type} (K : γ) (f : γ → δ) : δ := f K
def iand (a b : Int) : Int := (Int32.ofInt a &&& Int32.ofInt b).toInt
def iorr (a b : Int) : Int := (Int32.ofInt a ||| Int32.ofInt b).toInt
def ishl (a b : Int) : Int := (Int32.ofInt a <<< (Int32.ofInt b &&& 31)).toInt
def ishr (a b : Int) : Int := (Int32.ofInt a >>> (Int32.ofInt b &&& 31)).toInt
def imin (a b : Int) : Int := if b < a then b else a
def imax (a b : Int) : Int := if a < b then b else a
def i2l (a : Int) : Int64 := (Int32.ofInt a).toInt64
def l2i (x : Int64) : Int := x.toInt32.toInt
def lushr (x : Int64) (a : Int) : Int64 := (x.toUInt64 >>> ((Int32.ofInt a).toInt64.toUInt64 &&& Int64.toUInt64 63)).toInt64
def lcmp (x y : Int64) : Int := (lg_cmp x y).toInt
theorem lcmp_in (x y : Int64) : inR (lcmp x y) := i32_in _
theorem imin_in {a b : Int} (ha : inR a) (hb : inR b) : inR (imin a b) := by
  unfold imin
  split <;> assumption
theorem imax_in {a b : Int} (ha : inR a) (hb : inR b) : inR (imax a b) := by
  unfold imax
  split <;> assumption
theorem Option_bind_some {α β : Type} {x : Option α} {f : α → Option β} {y : β} (h : x.bind f = some y) : ∃ a, x = some a ∧ f a = some y := Option.bind_eq_some_iff.mp h
/-- a block: cell i of it is what 'lay i' makes of row i -/
def Bk (G : Gt) (lay : Lay) (N b : Nat) (σ : Blk) (H : Heap) : Prop := ∀ i, i < N → va_at G.1 vwCl (b + i, lay i (σ i)) H
def KK (G : Gt) (U : State) : Prop := va_K G.1 vwCl [(G.2.1, .int), (G.2.2.1, .array .int), (G.2.2.2, .object RX0)] U
theorem KK.moved {G : Gt} {u U : State} (hvm : u.vm.Alike U.vm) (h : KK G u) : KK G U := va_K.moved hvm h
/-- the class rows, and which array classes are there to be made -/
def KA (G : Gt) (U : State) : Prop := KK G U ∧ (Cond.arrayOver (.object RX0)).before #[] U = true ∧ (Cond.arrayOver (.array .int)).before #[] U = true
theorem KA.moved {G : Gt} {u U : State} (hvm : u.vm.Alike U.vm) (h : KA G u) : KA G U := ⟨h.1.moved hvm, va_AO.moved hvm h.2.1, arrayOver_alikeB hvm h.2.2⟩
/-- cell i is an array of n ints -/
def isA (G : Gt) (lay : Lay) (i n : Nat) : Prop := n ≤ 2147483647 ∧ ∀ d, lay i d = .inl (G.2.1, (n, .inl (fun j => Int32.ofInt (d j))))
/-- cell i is an object of class ci, its fields fs -/
def isO (lay : Lay) (i ci : Nat) (fs : (Nat → Int) → List Value) : Prop := ∀ d, lay i d = .inr (ci, fs d)
/-- cell i is an array of n arrays, the cells from w on -/
def isQ (G : Gt) (lay : Lay) (b i n w : Nat) : Prop := n ≤ 2147483647 ∧ ∀ d, lay i d = .inl (G.2.2.1, (n, .inr (.inr (.inr (.inr (fun j => if j < n then some (b + w + j) else none))))))
/-- which cells a method on the block may change -/
def Ab (b N : Nat) : Nat → Prop := fun q => b ≤ q ∧ q < b + N
/-- a world in which the block lies -/
def Wd (G : Gt) (lay : Lay) (N b : Nat) (I : Blk → Heap → Prop) : Prop := (∀ σ H, I σ H → Bk G lay N b σ H) ∧ ∀ σ σ' H H1, I σ H → Bk G lay N b σ' H1 → H1.size = H.size → (∀ q, q < b ∨ b + N ≤ q → H1[q]? = H[q]?) → I σ' H1
theorem Wd.set {G : Gt} {lay : Lay} {N b : Nat} {I : Blk → Heap → Prop} (hI : Wd G lay N b I) {σ : Blk} {H H1 : Heap} {c k : Nat} {v : Int} (h : I σ H) (hc : c < N) (hz : H1.size = H.size) (ho : ∀ q, q ≠ b + c → H1[q]? = H[q]?) (hcell : va_at G.1 vwCl (b + c, lay c (up2 σ c k v c)) H1) : I (up2 σ c k v) H1 := by
  refine hI.2 σ _ H H1 h (fun i hi => ?_) hz (fun q hq => ho q (by omega))
  by_cases e : i = c
  · subst e
    exact hcell
  · rw [up2_ne e]
    exact (hI.1 σ H h i hi).kept (ho (b + i) (by omega))
def Qm (po : Option Value → Heap → Prop) (A : Nat → Prop) : Array Value → State → Outcome → State → Prop := fun _ st oc t => (∃ v, oc = .returned v ∧ po v t.heap) ∧ va_F A st t
end
section
/-! THE WALK IN STEP WITH A PICTURE: Sim .. pc L st kk says: if the picture kk comes to x, then the machine, from pc with locals L and stack st over every heap of I, comes to Q x -/
def Cx (p : Program) (s : State) (m : MethodId) (args : Array Value) (meth : Method) (c : Code) (cc : ByteArray) (nL : Nat) (own : String) : Prop :=
  p.tables.exec = Jvm.exec ∧ c.code = cc ∧ c.maxLocals = nL ∧ s.vm.findClass own = some m.cls ∧ (∀ w ∈ lw_g, w.before args s = true) ∧ meth.locks = false
section ROWS
variable {p : Program} {l : Launch} {e : Env} {R : Room} {s : State} {m : MethodId} {args : Array Value} {below : List Frame} {meth : Method} {c : Code}
variable {cc : ByteArray} {nL : Nat} {own : String}
def Sim (p : Program) (l : Launch) (e : Env) (R : Room) (s : State) (m : MethodId) (args : Array Value) (below : List Frame) (meth : Method) (c : Code) (nL : Nat) {α : Type} (A : Nat → Prop) (Q : α → State → Prop) (k n : Nat) (I : Heap → Prop) (pc : Nat) (L : List (Nat × Value)) (st : List Value) (kk : Option α) : Prop :=
  ∀ x, kk = some x → ∀ (H : Heap) (locs : List Loc) (ls : Array Slot), I H → va_S A s.heap H locs → lv_has ls nL L → W p l e R s m args below meth c H locs k n (Q x) (F0 m pc ls st)
variable {α β : Type} {A : Nat → Prop} {Q : α → State → Prop} {k n : Nat} {I : Heap → Prop} {pc : Nat} {L L' : List (Nat × Value)} {st : List Value} {kk : Option α}
theorem s_none : Sim p l e R s m args below meth c nL A Q k n I pc L st none := fun x h => by cases h
theorem s_bind {x : Option β} {K : β → Option α} (h : ∀ y, x = some y → Sim p l e R s m args below meth c nL A Q k n I pc L st (K y)) : Sim p l e R s m args below meth c nL A Q k n I pc L st (x.bind K) := fun z hz => by
  obtain ⟨y, h1, h2⟩ := Option.bind_eq_some_iff.mp hz
  exact h y h1 z h2
theorem s_ck {a : Int} {K : Int → Option α} (h : inR a → Sim p l e R s m args below meth c nL A Q k n I pc L st (K a)) : Sim p l e R s m args below meth c nL A Q k n I pc L st ((ck a).bind K) := s_bind fun y hy => by
  unfold ck at hy
  split at hy
  · rename_i hr
    cases hy
    exact h hr
  · cases hy
theorem s_ckB {a : Int} {K : Int → Option α} (h : (a = 0 ∨ a = 1) → Sim p l e R s m args below meth c nL A Q k n I pc L st (K a)) : Sim p l e R s m args below meth c nL A Q k n I pc L st ((ckB a).bind K) := s_bind fun y hy => by
  unfold ckB at hy
  split at hy
  · rename_i hr
    cases hy
    exact h hr
  · cases hy
theorem s_ite {φ : Prop} [Decidable φ] {K1 K2 : Option α} (h1 : φ → Sim p l e R s m args below meth c nL A Q k n I pc L st K1) (h2 : ¬ φ → Sim p l e R s m args below meth c nL A Q k n I pc L st K2) : Sim p l e R s m args below meth c nL A Q k n I pc L st (if φ then K1 else K2) := by
  split
  · exact h1 (by assumption)
  · exact h2 (by assumption)
theorem s_jp {γ : Type} {K : γ} {f : γ → Option α} (P : γ → Prop) (h1 : P K) (h2 : ∀ j, P j → Sim p l e R s m args below meth c nL A Q k n I pc L st (f j)) : Sim p l e R s m args below meth c nL A Q k n I pc L st (jp K f) := h2 K h1
theorem s_sub (ks : List Nat) (hl : lv_pick L ks = L') (h : Sim p l e R s m args below meth c nL A Q k n I pc L' st kk) : Sim p l e R s m args below meth c nL A Q k n I pc L st kk := fun x hx H locs ls hI hS hL => h x hx H locs ls hI hS (lv_sub hL ks hl)
theorem s_I {I' : Heap → Prop} (hI : ∀ H, I H → I' H) (h : Sim p l e R s m args below meth c nL A Q k n I' pc L st kk) : Sim p l e R s m args below meth c nL A Q k n I pc L st kk := fun x hx H locs ls hh hS hL => h x hx H locs ls (hI H hh) hS hL
theorem s_widen {k' n' : Nat} (hk : k ≤ k') (hn : n ≤ n') (h : Sim p l e R s m args below meth c nL A Q k' n' I pc L st kk) : Sim p l e R s m args below meth c nL A Q k n I pc L st kk := fun x hx H locs ls hh hS hL => W.widen hk hn (h x hx H locs ls hh hS hL)
-- locals, constants
theorem s_iload_n (C : Cx p s m args meth c cc nL own) {kf : Fin 4} {i : Nat} {a : Int} (hd : decode cc pc = .ok (.iload_n kf, 1)) (hi : (kf : Nat) = i) (q : Nat) (hl : L[q]? = some (i, vI a)) (h : Sim p l e R s m args below meth c nL A Q k n I (pc + 1) L (vI a :: st) kk) : Sim p l e R s m args below meth c nL A Q k n I pc L st kk := fun x hx H locs ls hI hS hL => lv_iload_n C.1 C.2.1 hd hi (lv_at hL q hl) (h x hx H locs ls hI hS hL)
theorem s_iload (C : Cx p s m args meth c cc nL own) {i : Nat} {a : Int} (hd : decode cc pc = .ok (.iload i, 2)) (q : Nat) (hl : L[q]? = some (i, vI a)) (h : Sim p l e R s m args below meth c nL A Q k n I (pc + 2) L (vI a :: st) kk) : Sim p l e R s m args below meth c nL A Q k n I pc L st kk := fun x hx H locs ls hI hS hL => lv_iload C.1 C.2.1 hd (lv_at hL q hl) (h x hx H locs ls hI hS hL)
theorem s_lload_n (C : Cx p s m args meth c cc nL own) {kf : Fin 4} {i : Nat} {a : Int64} (hd : decode cc pc = .ok (.lload_n kf, 1)) (hi : (kf : Nat) = i) (q : Nat) (hl : L[q]? = some (i, .long a)) (h : Sim p l e R s m args below meth c nL A Q k n I (pc + 1) L (.long a :: st) kk) : Sim p l e R s m args below meth c nL A Q k n I pc L st kk := fun x hx H locs ls hI hS hL => lv_lload_n C.1 C.2.1 hd hi (lv_at hL q hl) (h x hx H locs ls hI hS hL)
theorem s_lload (C : Cx p s m args meth c cc nL own) {i : Nat} {a : Int64} (hd : decode cc pc = .ok (.lload i, 2)) (q : Nat) (hl : L[q]? = some (i, .long a)) (h : Sim p l e R s m args below meth c nL A Q k n I (pc + 2) L (.long a :: st) kk) : Sim p l e R s m args below meth c nL A Q k n I pc L st kk := fun x hx H locs ls hI hS hL => lv_lload C.1 C.2.1 hd (lv_at hL q hl) (h x hx H locs ls hI hS hL)
theorem s_aload_n (C : Cx p s m args meth c cc nL own) {kf : Fin 4} {i : Nat} {a : Nat} (hd : decode cc pc = .ok (.aload_n kf, 1)) (hi : (kf : Nat) = i) (q : Nat) (hl : L[q]? = some (i, .ref a)) (h : Sim p l e R s m args below meth c nL A Q k n I (pc + 1) L (.ref a :: st) kk) : Sim p l e R s m args below meth c nL A Q k n I pc L st kk := fun x hx H locs ls hI hS hL => lv_aload_n C.1 C.2.1 hd hi (lv_at hL q hl) (h x hx H locs ls hI hS hL)
theorem s_istore_n (C : Cx p s m args meth c cc nL own) {kf : Fin 4} {i : Nat} {a : Int} (hd : decode cc pc = .ok (.istore_n kf, 1)) (hi : (kf : Nat) = i) (hn : i < nL) (hl : (i, vI a) :: L.filter (fun q => !(q.1 == i) && !(q.1 + 1 == i && q.2.category == 2)) = L') (h : Sim p l e R s m args below meth c nL A Q k n I (pc + 1) L' st kk) : Sim p l e R s m args below meth c nL A Q k n I pc L (vI a :: st) kk := fun x hx H locs ls hI hS hL => lv_istore_n C.1 C.2.1 hd hi hL hn hl (fun ls' hL' => h x hx H locs ls' hI hS hL')
theorem s_istore (C : Cx p s m args meth c cc nL own) {i : Nat} {a : Int} (hd : decode cc pc = .ok (.istore i, 2)) (hn : i < nL) (hl : (i, vI a) :: L.filter (fun q => !(q.1 == i) && !(q.1 + 1 == i && q.2.category == 2)) = L') (h : Sim p l e R s m args below meth c nL A Q k n I (pc + 2) L' st kk) : Sim p l e R s m args below meth c nL A Q k n I pc L (vI a :: st) kk := fun x hx H locs ls hI hS hL => lv_istore C.1 C.2.1 hd hL hn hl (fun ls' hL' => h x hx H locs ls' hI hS hL')
theorem s_lstore_n (C : Cx p s m args meth c cc nL own) {kf : Fin 4} {i : Nat} {a : Int64} (hd : decode cc pc = .ok (.lstore_n kf, 1)) (hi : (kf : Nat) = i) (hn : i + 1 < nL) (hl : (i, Value.long a) :: L.filter (fun q => !(q.1 == i) && (!(q.1 == i + 1) && !(q.1 + 1 == i && q.2.category == 2))) = L') (h : Sim p l e R s m args below meth c nL A Q k n I (pc + 1) L' st kk) : Sim p l e R s m args below meth c nL A Q k n I pc L (.long a :: st) kk := fun x hx H locs ls hI hS hL => lv_lstore_n C.1 C.2.1 hd hi hL hn hl (fun ls' hL' => h x hx H locs ls' hI hS hL')
theorem s_lstore (C : Cx p s m args meth c cc nL own) {i : Nat} {a : Int64} (hd : decode cc pc = .ok (.lstore i, 2)) (hn : i + 1 < nL) (hl : (i, Value.long a) :: L.filter (fun q => !(q.1 == i) && (!(q.1 == i + 1) && !(q.1 + 1 == i && q.2.category == 2))) = L') (h : Sim p l e R s m args below meth c nL A Q k n I (pc + 2) L' st kk) : Sim p l e R s m args below meth c nL A Q k n I pc L (.long a :: st) kk := fun x hx H locs ls hI hS hL => lv_lstore C.1 C.2.1 hd hL hn hl (fun ls' hL' => h x hx H locs ls' hI hS hL')
theorem s_astore_n (C : Cx p s m args meth c cc nL own) {kf : Fin 4} {i : Nat} {a : Nat} (hd : decode cc pc = .ok (.astore_n kf, 1)) (hi : (kf : Nat) = i) (hn : i < nL) (hl : (i, Value.ref a) :: L.filter (fun q => !(q.1 == i) && !(q.1 + 1 == i && q.2.category == 2)) = L') (h : Sim p l e R s m args below meth c nL A Q k n I (pc + 1) L' st kk) : Sim p l e R s m args below meth c nL A Q k n I pc L (.ref a :: st) kk := fun x hx H locs ls hI hS hL => lv_astore_n C.1 C.2.1 hd hi hL hn hl (fun ls' hL' => h x hx H locs ls' hI hS hL')
theorem s_iinc (C : Cx p s m args meth c cc nL own) {i : Nat} {a z : Int} (hd : decode cc pc = .ok (.iinc i z, 3)) (q : Nat) (hq : L[q]? = some (i, vI a)) (hn : i < nL) (hl : (i, vI (a + z)) :: L.filter (fun q => !(q.1 == i) && !(q.1 + 1 == i && q.2.category == 2)) = L') (h : Sim p l e R s m args below meth c nL A Q k n I (pc + 3) L' st kk) : Sim p l e R s m args below meth c nL A Q k n I pc L st kk := fun x hx H locs ls hI hS hL => lv_iinc (v := Int32.ofInt (a + z)) C.1 C.2.1 hd hL hq (Int32.ofInt_add a z).symm hn hl (fun ls' hL' => h x hx H locs ls' hI hS hL')
theorem s_iconst (C : Cx p s m args meth c cc nL own) {z : Int} (hd : decode cc pc = .ok (.iconst z, 1)) (h : Sim p l e R s m args below meth c nL A Q k n I (pc + 1) L (vI z :: st) kk) : Sim p l e R s m args below meth c nL A Q k n I pc L st kk := fun x hx H locs ls hI hS hL => lv_iconst C.1 C.2.1 hd rfl (h x hx H locs ls hI hS hL)
theorem s_bipush (C : Cx p s m args meth c cc nL own) {z : Int} (hd : decode cc pc = .ok (.bipush z, 2)) (hv : (Int8.ofInt z).toInt32 = Int32.ofInt z) (h : Sim p l e R s m args below meth c nL A Q k n I (pc + 2) L (vI z :: st) kk) : Sim p l e R s m args below meth c nL A Q k n I pc L st kk := fun x hx H locs ls hI hS hL => lv_bipush C.1 C.2.1 hd hv (h x hx H locs ls hI hS hL)
theorem s_sipush (C : Cx p s m args meth c cc nL own) {z : Int} (hd : decode cc pc = .ok (.sipush z, 3)) (hv : (Int16.ofInt z).toInt32 = Int32.ofInt z) (h : Sim p l e R s m args below meth c nL A Q k n I (pc + 3) L (vI z :: st) kk) : Sim p l e R s m args below meth c nL A Q k n I pc L st kk := fun x hx H locs ls hI hS hL => lv_sipush C.1 C.2.1 hd hv (h x hx H locs ls hI hS hL)
theorem s_lconst (C : Cx p s m args meth c cc nL own) {z : Fin 2} {v : Int64} (hd : decode cc pc = .ok (.lconst z, 1)) (hv : Int64.ofNat (z : Nat) = v) (h : Sim p l e R s m args below meth c nL A Q k n I (pc + 1) L (.long v :: st) kk) : Sim p l e R s m args below meth c nL A Q k n I pc L st kk := fun x hx H locs ls hI hS hL => lv_lconst C.1 C.2.1 hd hv (h x hx H locs ls hI hS hL)
theorem s_ldc2 (C : Cx p s m args meth c cc nL own) {ix : Nat} {v : Int64} (hw : Cond.constantLong own ix v ∈ lw_g) (hd : decode cc pc = .ok (.ldc2_w ix, 3)) (h : Sim p l e R s m args below meth c nL A Q k n I (pc + 3) L (.long v :: st) kk) : Sim p l e R s m args below meth c nL A Q k n I pc L st kk := fun x hx H locs ls hI hS hL => lv_ldc2 C.1 C.2.1 C.2.2.2.1 (C.2.2.2.2.1 _ hw) hd (h x hx H locs ls hI hS hL)
theorem s_dup (C : Cx p s m args meth c cc nL own) {v : Value} (hd : decode cc pc = .ok (.dup, 1)) (hv : v.category = 1) (h : Sim p l e R s m args below meth c nL A Q k n I (pc + 1) L (v :: v :: st) kk) : Sim p l e R s m args below meth c nL A Q k n I pc L (v :: st) kk := fun x hx H locs ls hI hS hL => lv_dup C.1 C.2.1 hd hv (h x hx H locs ls hI hS hL)
theorem s_dup2 (C : Cx p s m args meth c cc nL own) {v w : Value} (hd : decode cc pc = .ok (.dup2, 1)) (hv : v.category = 1) (hw : w.category = 1) (h : Sim p l e R s m args below meth c nL A Q k n I (pc + 1) L (v :: w :: v :: w :: st) kk) : Sim p l e R s m args below meth c nL A Q k n I pc L (v :: w :: st) kk := fun x hx H locs ls hI hS hL => lv_dup2_11 C.1 C.2.1 hd hv hw (h x hx H locs ls hI hS hL)
theorem s_goto (C : Cx p s m args meth c cc nL own) {off : Int} {tgt : Nat} (hd : decode cc pc = .ok (.goto off, 3)) (ht : (pc : Int) + off = (tgt : Int)) (h : Sim p l e R s m args below meth c nL A Q k n I tgt L st kk) : Sim p l e R s m args below meth c nL A Q k n I pc L st kk := fun x hx H locs ls hI hS hL => lv_goto C.1 C.2.1 hd ht (h x hx H locs ls hI hS hL)
-- arithmetic
theorem s_iadd (C : Cx p s m args meth c cc nL own) {a b : Int} (hd : decode cc pc = .ok (.iadd, 1)) (h : Sim p l e R s m args below meth c nL A Q k n I (pc + 1) L (vI (a + b) :: st) kk) : Sim p l e R s m args below meth c nL A Q k n I pc L (vI b :: vI a :: st) kk := fun x hx H locs ls hI hS hL => lv_iadd C.1 C.2.1 hd (by rw [← Int32.ofInt_add]; exact h x hx H locs ls hI hS hL)
theorem s_isub (C : Cx p s m args meth c cc nL own) {a b : Int} (hd : decode cc pc = .ok (.isub, 1)) (h : Sim p l e R s m args below meth c nL A Q k n I (pc + 1) L (vI (a - b) :: st) kk) : Sim p l e R s m args below meth c nL A Q k n I pc L (vI b :: vI a :: st) kk := fun x hx H locs ls hI hS hL => lv_isub C.1 C.2.1 hd (by rw [← Int32.ofInt_sub]; exact h x hx H locs ls hI hS hL)
theorem s_imul (C : Cx p s m args meth c cc nL own) {a b : Int} (hd : decode cc pc = .ok (.imul, 1)) (h : Sim p l e R s m args below meth c nL A Q k n I (pc + 1) L (vI (a * b) :: st) kk) : Sim p l e R s m args below meth c nL A Q k n I pc L (vI b :: vI a :: st) kk := fun x hx H locs ls hI hS hL => lv_imul C.1 C.2.1 hd (by rw [← Int32.ofInt_mul]; exact h x hx H locs ls hI hS hL)
theorem i32_div {a d : Int} (ha : inR a) (h0 : 0 ≤ a) (hd : inR d) (hp : 0 < d) : Int32.ofInt a / Int32.ofInt d = Int32.ofInt (a / d) := by
  rw [← Int32.toInt_inj, Int32.toInt_div, i32_of ha, i32_of hd, Int.tdiv_eq_ediv_of_nonneg h0]
  have h1 : 0 ≤ a / d := Int.ediv_nonneg h0 (Int.le_of_lt hp)
  have h2 : a / d ≤ a := Int.ediv_le_self d h0
  rw [i32_of ⟨by omega, by omega⟩]
  rw [Int.bmod_eq_of_le (by omega) (by omega)]
theorem dv_in {a d : Int} (ha : inR a) (h0 : 0 ≤ a) (hp : 0 < d) : inR (a / d) := by
  have h1 : 0 ≤ a / d := Int.ediv_nonneg h0 (Int.le_of_lt hp)
  have h2 : a / d ≤ a := Int.ediv_le_self d h0
  exact ⟨by omega, by omega⟩
theorem rm_in {a d : Int} (hd : inR d) (hp : 0 < d) : inR (a % d) := by
  have h1 : 0 ≤ a % d := Int.emod_nonneg a (by omega)
  have h2 : a % d < d := Int.emod_lt_of_pos a hp
  exact ⟨by omega, by omega⟩
theorem s_idiv (C : Cx p s m args meth c cc nL own) {a d : Int} {K : Int → Option α} (hd : decode cc pc = .ok (.idiv, 1)) (ha : inR a) (hdr : inR d) (hp : 0 < d) (h : ∀ v, inR v → Sim p l e R s m args below meth c nL A Q k n I (pc + 1) L (vI v :: st) (K v)) : Sim p l e R s m args below meth c nL A Q k n I pc L (vI d :: vI a :: st) ((dv a d).bind K) := s_bind fun y hy x hx H locs ls hI hS hL => by
  unfold dv at hy
  split at hy
  · rename_i h0
    cases hy
    refine lv_idiv C.1 C.2.1 hd (fun z => ?_) ?_
    · have := (i32_eq hdr (inR_c 0 rfl)).mp z
      omega
    · rw [i32_div ha h0 hdr hp]
      exact h _ (dv_in ha h0 hp) x hx H locs ls hI hS hL
  · cases hy
end ROWS
end
section
section ROWS2
variable {p : Program} {l : Launch} {e : Env} {R : Room} {s : State} {m : MethodId} {args : Array Value} {below : List Frame} {meth : Method} {c : Code}
variable {cc : ByteArray} {nL : Nat} {own : String}
variable {α β : Type} {A : Nat → Prop} {Q : α → State → Prop} {k n : Nat} {I : Heap → Prop} {pc : Nat} {L L' : List (Nat × Value)} {st : List Value} {kk : Option α}

theorem s_icmp_eq (C : Cx p s m args meth c cc nL own) {a b : Int} {off : Int} {tgt : Nat} {K1 K2 : Option α} (hd : decode cc pc = .ok (.if_icmp .eq off, 3)) (ht : (pc : Int) + off = (tgt : Int)) (ha : inR a) (hb : inR b) (h1 : Sim p l e R s m args below meth c nL A Q k n I tgt L st K1) (h2 : Sim p l e R s m args below meth c nL A Q k n I (pc + 3) L st K2) : Sim p l e R s m args below meth c nL A Q k n I pc L (vI b :: vI a :: st) (if a = b then K1 else K2) := fun x hx H locs ls hI hS hL => lv_icmp_eq C.1 C.2.1 hd ht (fun z => by
    rw [if_pos ((i32_eq ha hb).mp z)] at hx
    exact h1 x hx H locs ls hI hS hL) (fun z => by
    rw [if_neg (fun q => z ((i32_eq ha hb).mpr q))] at hx
    exact h2 x hx H locs ls hI hS hL)
theorem s_icmp_ne (C : Cx p s m args meth c cc nL own) {a b : Int} {off : Int} {tgt : Nat} {K1 K2 : Option α} (hd : decode cc pc = .ok (.if_icmp .ne off, 3)) (ht : (pc : Int) + off = (tgt : Int)) (ha : inR a) (hb : inR b) (h1 : Sim p l e R s m args below meth c nL A Q k n I tgt L st K1) (h2 : Sim p l e R s m args below meth c nL A Q k n I (pc + 3) L st K2) : Sim p l e R s m args below meth c nL A Q k n I pc L (vI b :: vI a :: st) (if a ≠ b then K1 else K2) := fun x hx H locs ls hI hS hL => lv_icmp_ne C.1 C.2.1 hd ht (fun z => by
    rw [if_pos (fun q => z ((i32_eq ha hb).mpr q))] at hx
    exact h1 x hx H locs ls hI hS hL) (fun z => by
    rw [if_neg (fun q => q ((i32_eq ha hb).mp z))] at hx
    exact h2 x hx H locs ls hI hS hL)
theorem s_icmp_lt (C : Cx p s m args meth c cc nL own) {a b : Int} {off : Int} {tgt : Nat} {K1 K2 : Option α} (hd : decode cc pc = .ok (.if_icmp .lt off, 3)) (ht : (pc : Int) + off = (tgt : Int)) (ha : inR a) (hb : inR b) (h1 : Sim p l e R s m args below meth c nL A Q k n I tgt L st K1) (h2 : Sim p l e R s m args below meth c nL A Q k n I (pc + 3) L st K2) : Sim p l e R s m args below meth c nL A Q k n I pc L (vI b :: vI a :: st) (if a < b then K1 else K2) := fun x hx H locs ls hI hS hL => lv_icmp_lt C.1 C.2.1 hd ht (fun z => by
    rw [if_pos ((i32_lt ha hb).mp z)] at hx
    exact h1 x hx H locs ls hI hS hL) (fun z => by
    rw [if_neg (fun q => z ((i32_lt ha hb).mpr q))] at hx
    exact h2 x hx H locs ls hI hS hL)
theorem s_icmp_ge (C : Cx p s m args meth c cc nL own) {a b : Int} {off : Int} {tgt : Nat} {K1 K2 : Option α} (hd : decode cc pc = .ok (.if_icmp .ge off, 3)) (ht : (pc : Int) + off = (tgt : Int)) (ha : inR a) (hb : inR b) (h1 : Sim p l e R s m args below meth c nL A Q k n I tgt L st K1) (h2 : Sim p l e R s m args below meth c nL A Q k n I (pc + 3) L st K2) : Sim p l e R s m args below meth c nL A Q k n I pc L (vI b :: vI a :: st) (if b ≤ a then K1 else K2) := fun x hx H locs ls hI hS hL => lv_icmp_ge C.1 C.2.1 hd ht (fun z => by
    rw [if_pos ((i32_le hb ha).mp z)] at hx
    exact h1 x hx H locs ls hI hS hL) (fun z => by
    rw [if_neg (fun q => z ((i32_le hb ha).mpr q))] at hx
    exact h2 x hx H locs ls hI hS hL)
theorem s_icmp_gt (C : Cx p s m args meth c cc nL own) {a b : Int} {off : Int} {tgt : Nat} {K1 K2 : Option α} (hd : decode cc pc = .ok (.if_icmp .gt off, 3)) (ht : (pc : Int) + off = (tgt : Int)) (ha : inR a) (hb : inR b) (h1 : Sim p l e R s m args below meth c nL A Q k n I tgt L st K1) (h2 : Sim p l e R s m args below meth c nL A Q k n I (pc + 3) L st K2) : Sim p l e R s m args below meth c nL A Q k n I pc L (vI b :: vI a :: st) (if b < a then K1 else K2) := fun x hx H locs ls hI hS hL => lv_icmp_gt C.1 C.2.1 hd ht (fun z => by
    rw [if_pos ((i32_lt hb ha).mp z)] at hx
    exact h1 x hx H locs ls hI hS hL) (fun z => by
    rw [if_neg (fun q => z ((i32_lt hb ha).mpr q))] at hx
    exact h2 x hx H locs ls hI hS hL)
theorem s_icmp_le (C : Cx p s m args meth c cc nL own) {a b : Int} {off : Int} {tgt : Nat} {K1 K2 : Option α} (hd : decode cc pc = .ok (.if_icmp .le off, 3)) (ht : (pc : Int) + off = (tgt : Int)) (ha : inR a) (hb : inR b) (h1 : Sim p l e R s m args below meth c nL A Q k n I tgt L st K1) (h2 : Sim p l e R s m args below meth c nL A Q k n I (pc + 3) L st K2) : Sim p l e R s m args below meth c nL A Q k n I pc L (vI b :: vI a :: st) (if a ≤ b then K1 else K2) := fun x hx H locs ls hI hS hL => lv_icmp_le C.1 C.2.1 hd ht (fun z => by
    rw [if_pos ((i32_le ha hb).mp z)] at hx
    exact h1 x hx H locs ls hI hS hL) (fun z => by
    rw [if_neg (fun q => z ((i32_le ha hb).mpr q))] at hx
    exact h2 x hx H locs ls hI hS hL)
theorem s_if_eq (C : Cx p s m args meth c cc nL own) {a : Int} {off : Int} {tgt : Nat} {K1 K2 : Option α} (hd : decode cc pc = .ok (.ifCond .eq off, 3)) (ht : (pc : Int) + off = (tgt : Int)) (ha : inR a) (h1 : Sim p l e R s m args below meth c nL A Q k n I tgt L st K1) (h2 : Sim p l e R s m args below meth c nL A Q k n I (pc + 3) L st K2) : Sim p l e R s m args below meth c nL A Q k n I pc L (vI a :: st) (if a = 0 then K1 else K2) := fun x hx H locs ls hI hS hL => lv_if_eq C.1 C.2.1 hd ht (fun z => by
    rw [if_pos ((i32_eq ha (inR_c 0 rfl)).mp z)] at hx
    exact h1 x hx H locs ls hI hS hL) (fun z => by
    rw [if_neg (fun q => z ((i32_eq ha (inR_c 0 rfl)).mpr q))] at hx
    exact h2 x hx H locs ls hI hS hL)
theorem s_if_ne (C : Cx p s m args meth c cc nL own) {a : Int} {off : Int} {tgt : Nat} {K1 K2 : Option α} (hd : decode cc pc = .ok (.ifCond .ne off, 3)) (ht : (pc : Int) + off = (tgt : Int)) (ha : inR a) (h1 : Sim p l e R s m args below meth c nL A Q k n I tgt L st K1) (h2 : Sim p l e R s m args below meth c nL A Q k n I (pc + 3) L st K2) : Sim p l e R s m args below meth c nL A Q k n I pc L (vI a :: st) (if a ≠ 0 then K1 else K2) := fun x hx H locs ls hI hS hL => lv_if_ne C.1 C.2.1 hd ht (fun z => by
    rw [if_pos (fun q => z ((i32_eq ha (inR_c 0 rfl)).mpr q))] at hx
    exact h1 x hx H locs ls hI hS hL) (fun z => by
    rw [if_neg (fun q => q ((i32_eq ha (inR_c 0 rfl)).mp z))] at hx
    exact h2 x hx H locs ls hI hS hL)
theorem s_if_lt (C : Cx p s m args meth c cc nL own) {a : Int} {off : Int} {tgt : Nat} {K1 K2 : Option α} (hd : decode cc pc = .ok (.ifCond .lt off, 3)) (ht : (pc : Int) + off = (tgt : Int)) (ha : inR a) (h1 : Sim p l e R s m args below meth c nL A Q k n I tgt L st K1) (h2 : Sim p l e R s m args below meth c nL A Q k n I (pc + 3) L st K2) : Sim p l e R s m args below meth c nL A Q k n I pc L (vI a :: st) (if a < 0 then K1 else K2) := fun x hx H locs ls hI hS hL => lv_if_lt C.1 C.2.1 hd ht (fun z => by
    rw [if_pos ((i32_lt ha (inR_c 0 rfl)).mp z)] at hx
    exact h1 x hx H locs ls hI hS hL) (fun z => by
    rw [if_neg (fun q => z ((i32_lt ha (inR_c 0 rfl)).mpr q))] at hx
    exact h2 x hx H locs ls hI hS hL)
theorem s_if_ge (C : Cx p s m args meth c cc nL own) {a : Int} {off : Int} {tgt : Nat} {K1 K2 : Option α} (hd : decode cc pc = .ok (.ifCond .ge off, 3)) (ht : (pc : Int) + off = (tgt : Int)) (ha : inR a) (h1 : Sim p l e R s m args below meth c nL A Q k n I tgt L st K1) (h2 : Sim p l e R s m args below meth c nL A Q k n I (pc + 3) L st K2) : Sim p l e R s m args below meth c nL A Q k n I pc L (vI a :: st) (if 0 ≤ a then K1 else K2) := fun x hx H locs ls hI hS hL => lv_if_ge C.1 C.2.1 hd ht (fun z => by
    rw [if_pos ((i32_le (inR_c 0 rfl) ha).mp z)] at hx
    exact h1 x hx H locs ls hI hS hL) (fun z => by
    rw [if_neg (fun q => z ((i32_le (inR_c 0 rfl) ha).mpr q))] at hx
    exact h2 x hx H locs ls hI hS hL)
theorem s_if_gt (C : Cx p s m args meth c cc nL own) {a : Int} {off : Int} {tgt : Nat} {K1 K2 : Option α} (hd : decode cc pc = .ok (.ifCond .gt off, 3)) (ht : (pc : Int) + off = (tgt : Int)) (ha : inR a) (h1 : Sim p l e R s m args below meth c nL A Q k n I tgt L st K1) (h2 : Sim p l e R s m args below meth c nL A Q k n I (pc + 3) L st K2) : Sim p l e R s m args below meth c nL A Q k n I pc L (vI a :: st) (if 0 < a then K1 else K2) := fun x hx H locs ls hI hS hL => lv_if_gt C.1 C.2.1 hd ht (fun z => by
    rw [if_pos ((i32_lt (inR_c 0 rfl) ha).mp z)] at hx
    exact h1 x hx H locs ls hI hS hL) (fun z => by
    rw [if_neg (fun q => z ((i32_lt (inR_c 0 rfl) ha).mpr q))] at hx
    exact h2 x hx H locs ls hI hS hL)
theorem s_if_le (C : Cx p s m args meth c cc nL own) {a : Int} {off : Int} {tgt : Nat} {K1 K2 : Option α} (hd : decode cc pc = .ok (.ifCond .le off, 3)) (ht : (pc : Int) + off = (tgt : Int)) (ha : inR a) (h1 : Sim p l e R s m args below meth c nL A Q k n I tgt L st K1) (h2 : Sim p l e R s m args below meth c nL A Q k n I (pc + 3) L st K2) : Sim p l e R s m args below meth c nL A Q k n I pc L (vI a :: st) (if a ≤ 0 then K1 else K2) := fun x hx H locs ls hI hS hL => lv_if_le C.1 C.2.1 hd ht (fun z => by
    rw [if_pos ((i32_le ha (inR_c 0 rfl)).mp z)] at hx
    exact h1 x hx H locs ls hI hS hL) (fun z => by
    rw [if_neg (fun q => z ((i32_le ha (inR_c 0 rfl)).mpr q))] at hx
    exact h2 x hx H locs ls hI hS hL)
-- more arithmetic
theorem s_irem (C : Cx p s m args meth c cc nL own) {a d : Int} {K : Int → Option α} (hd : decode cc pc = .ok (.irem, 1)) (ha : inR a) (hdr : inR d) (hp : 0 < d) (h : ∀ v, inR v → Sim p l e R s m args below meth c nL A Q k n I (pc + 1) L (vI v :: st) (K v)) : Sim p l e R s m args below meth c nL A Q k n I pc L (vI d :: vI a :: st) ((rm_ a d).bind K) := s_bind fun y hy x hx H locs ls hI hS hL => by
  unfold rm_ at hy
  split at hy
  · rename_i h0
    cases hy
    refine lv_irem C.1 C.2.1 hd (fun z => ?_) ?_
    · have := (i32_eq hdr (inR_c 0 rfl)).mp z
      omega
    · have e1 : Int32.ofInt a - Int32.ofInt a / Int32.ofInt d * Int32.ofInt d = Int32.ofInt (a % d) := by
        rw [i32_div ha h0 hdr hp, ← Int32.ofInt_mul, ← Int32.ofInt_sub]
        congr 1
        have := Int.emod_add_mul_ediv a d
        rw [Int.mul_comm] at this
        omega
      rw [e1]
      exact h _ (rm_in hdr hp) x hx H locs ls hI hS hL
  · cases hy
theorem s_iand (C : Cx p s m args meth c cc nL own) {a b : Int} (hd : decode cc pc = .ok (.iand, 1)) (h : Sim p l e R s m args below meth c nL A Q k n I (pc + 1) L (vI (iand a b) :: st) kk) : Sim p l e R s m args below meth c nL A Q k n I pc L (vI b :: vI a :: st) kk := fun x hx H locs ls hI hS hL => lv_iand C.1 C.2.1 hd (by rw [← i32_to (Int32.ofInt a &&& Int32.ofInt b)]; exact h x hx H locs ls hI hS hL)
theorem s_ior (C : Cx p s m args meth c cc nL own) {a b : Int} (hd : decode cc pc = .ok (.ior, 1)) (h : Sim p l e R s m args below meth c nL A Q k n I (pc + 1) L (vI (iorr a b) :: st) kk) : Sim p l e R s m args below meth c nL A Q k n I pc L (vI b :: vI a :: st) kk := fun x hx H locs ls hI hS hL => lv_ior C.1 C.2.1 hd (by rw [← i32_to (Int32.ofInt a ||| Int32.ofInt b)]; exact h x hx H locs ls hI hS hL)
theorem s_ishl (C : Cx p s m args meth c cc nL own) {a b : Int} (hd : decode cc pc = .ok (.ishl, 1)) (h : Sim p l e R s m args below meth c nL A Q k n I (pc + 1) L (vI (ishl a b) :: st) kk) : Sim p l e R s m args below meth c nL A Q k n I pc L (vI b :: vI a :: st) kk := fun x hx H locs ls hI hS hL => lv_ishl C.1 C.2.1 hd (by rw [← i32_to (Int32.ofInt a <<< (Int32.ofInt b &&& 31))]; exact h x hx H locs ls hI hS hL)
theorem s_ishr (C : Cx p s m args meth c cc nL own) {a b : Int} (hd : decode cc pc = .ok (.ishr, 1)) (h : Sim p l e R s m args below meth c nL A Q k n I (pc + 1) L (vI (ishr a b) :: st) kk) : Sim p l e R s m args below meth c nL A Q k n I pc L (vI b :: vI a :: st) kk := fun x hx H locs ls hI hS hL => lv_ishr C.1 C.2.1 hd (by rw [← i32_to (Int32.ofInt a >>> (Int32.ofInt b &&& 31))]; exact h x hx H locs ls hI hS hL)
theorem s_i2l (C : Cx p s m args meth c cc nL own) {a : Int} (hd : decode cc pc = .ok (.i2l, 1)) (h : Sim p l e R s m args below meth c nL A Q k n I (pc + 1) L (.long (i2l a) :: st) kk) : Sim p l e R s m args below meth c nL A Q k n I pc L (vI a :: st) kk := fun x hx H locs ls hI hS hL => lv_i2l C.1 C.2.1 hd rfl (h x hx H locs ls hI hS hL)
theorem s_l2i (C : Cx p s m args meth c cc nL own) {a : Int64} (hd : decode cc pc = .ok (.l2i, 1)) (h : Sim p l e R s m args below meth c nL A Q k n I (pc + 1) L (vI (l2i a) :: st) kk) : Sim p l e R s m args below meth c nL A Q k n I pc L (.long a :: st) kk := fun x hx H locs ls hI hS hL => lv_l2i C.1 C.2.1 hd (i32_to a.toInt32).symm (h x hx H locs ls hI hS hL)
theorem s_lushr (C : Cx p s m args meth c cc nL own) {a : Int64} {b : Int} (hd : decode cc pc = .ok (.lushr, 1)) (h : Sim p l e R s m args below meth c nL A Q k n I (pc + 1) L (.long (lushr a b) :: st) kk) : Sim p l e R s m args below meth c nL A Q k n I pc L (vI b :: .long a :: st) kk := fun x hx H locs ls hI hS hL => lv_lushr C.1 C.2.1 hd rfl (h x hx H locs ls hI hS hL)
theorem s_land (C : Cx p s m args meth c cc nL own) {a b : Int64} (hd : decode cc pc = .ok (.land, 1)) (h : Sim p l e R s m args below meth c nL A Q k n I (pc + 1) L (.long (a &&& b) :: st) kk) : Sim p l e R s m args below meth c nL A Q k n I pc L (.long b :: .long a :: st) kk := fun x hx H locs ls hI hS hL => lv_land C.1 C.2.1 hd (h x hx H locs ls hI hS hL)
-- the heap
theorem s_get (C : Cx p s m args meth c cc nL own) {G : Gt} (hK : KK G s) {lay : Lay} {N b i ci : Nat} {σ : Blk} {fs : (Nat → Int) → List Value} {Cn : String} {T : u_T} {Nf ix : Nat} {v : Value} (hI : ∀ H, I H → Bk G lay N b σ H) (hi : i < N) (ho : isO lay i ci fs) (hc : vwCl[ci]? = some (Cn, T, Nf)) (hin : ∀ w ∈ u_ws Cn T Nf, w ∈ lw_g) (f : Nat) (hf : f < Nf) (hw : Cond.fieldLink own ix (T f).1 (T f).2.1 (T f).2.2.1 ∈ lw_g) (hv : (fs (σ i))[f]? = some v) (hd : decode cc pc = .ok (.getfield ix, 3)) (h : Sim p l e R s m args below meth c nL A Q k n I (pc + 3) L (v :: st) kk) : Sim p l e R s m args below meth c nL A Q k n I pc L (.ref (b + i) :: st) kk := fun x hx H locs ls hH hS hL => by
  have h0 := hI H hH i hi
  rw [ho (σ i)] at h0
  exact va_get (D := G.1) (cl := vwCl) (ws := [(b + i, .inr (ci, fs (σ i)))]) (ref := (T f).1) C.1 C.2.1 C.2.2.2.2.1 hin C.2.2.2.1 hK (fun q z hz => by
    match q, hz with
    | 0, hz => cases hz; exact h0
    | q + 1, hz => simp at hz) 0 rfl hc f hf (C.2.2.2.2.1 _ hw) (fun _ z => z) hv hd (h x hx H locs ls hH hS hL)
theorem s_put (C : Cx p s m args meth c cc nL own) {G : Gt} (hK : KK G s) {lay : Lay} {N b i ci : Nat} {σ : Blk} {fs : (Nat → Int) → List Value} {Cn : String} {T : u_T} {ty0 : Nat → FieldType} {Nf ix : Nat} {a : Int} {J : Blk → Heap → Prop} (hJ : Wd G lay N b J) (hA : ∀ q, Ab b N q → A q) (hi : i < N) (ho : isO lay i ci fs) (hc : vwCl[ci]? = some (Cn, T, Nf)) (hin : ∀ w ∈ u_ws Cn T Nf, w ∈ lw_g) (hty : ∀ k, k < Nf → parseFieldDescriptor (T k).2.2.1 = some (ty0 k)) (hnm : ∀ a, a < Nf → ∀ b, b < Nf → a ≠ b → (T a).2.1 ≠ (T b).2.1) (f : Nat) (hf : f < Nf) (hw : Cond.fieldLink own ix (T f).1 (T f).2.1 (T f).2.2.1 ∈ lw_g) (hfin : (T f).2.2.2 = false) {ty : FieldType} (hd0 : parseFieldDescriptor (T f).2.2.1 = some ty) (hn : narrow ty (vI a) = vI a) (hfit : fits ty (vI a) = true) (hl : f < (fs (σ i)).length) (hset : fs (up2 σ i f a i) = (fs (σ i)).set f (vI a)) (hd : decode cc pc = .ok (.putfield ix, 3)) (h : Sim p l e R s m args below meth c nL A Q k n (J (up2 σ i f a)) (pc + 3) L st kk) : Sim p l e R s m args below meth c nL A Q k n (J σ) pc L (vI a :: .ref (b + i) :: st) kk := fun x hx H locs ls hH hS hL => by
  have hts := C.2.2.2.2.1
  have h0 := hJ.1 σ H hH i hi
  rw [ho (σ i)] at h0
  have hap := va_apart (own := own) hts hin ty0 hty hnm hK hc
  obtain ⟨r, h1, cell, q1, q2, q3, q4⟩ := h0
  have hr : r = (Cn, T, Nf) := Option.some.inj (h1.symm.trans hc)
  subst hr
  obtain ⟨hS0, hfc, kC, hkC, hkind⟩ := hK.1 ci _ hc
  obtain ⟨cf, kf, fi, fd, hi2, hsl⟩ := hS0 f hf
  have hlay := hts _ (hin _ (u_in_lay hf))
  unfold u_lay at hlay
  rw [if_neg (by rw [hfin]; decide)] at hlay
  have hst := (u_facts hfc hkC (u_lays hts hin hf) hi2).1
  have h6 := u_store hfc hkC hkind hlay hi2 hd0 hn hfit
  refine W.putK C.1 C.2.1 (f := fd) ⟨C.2.2.2.1, hts _ hw, ⟨_, _, _, hi2⟩, hst⟩ (by rw [q2]; exact h6) q1 q3 (by rw [hsl]; exact k2_hasslot (q4 f hf)) rfl rfl hd fun H' e1 e2 e3 => ?_
  rw [hsl] at e1 ⊢
  refine h x hx H' _ ls (hJ.set hH hi e2 e3 ?_) (hS.put e2 e3 (hA _ ⟨by omega, by omega⟩)) hL
  show va_at G.1 vwCl (b + i, lay i (up2 σ i f a i)) H'
  rw [ho, hset]
  exact ⟨_, hc, t_OB.to (V := updV (vp_V (fs (σ i))) f (vI a)) ⟨_, e1, q2, q3, t_set q4 hap hf (vI a)⟩ (fun j _ => vp_updV_set hl (vI a) j)⟩
theorem s_iaload (C : Cx p s m args meth c cc nL own) {G : Gt} (hK : KK G s) {lay : Lay} {N b i nA : Nat} {σ : Blk} {j : Int} {K : Int → Option α} (hI : ∀ H, I H → Bk G lay N b σ H) (hσ : Rg σ) (hi : i < N) (ha : isA G lay i nA) (hd : decode cc pc = .ok (.iaload, 1)) (h : ∀ v, inR v → Sim p l e R s m args below meth c nL A Q k n I (pc + 1) L (vI v :: st) (K v)) : Sim p l e R s m args below meth c nL A Q k n I pc L (vI j :: .ref (b + i) :: st) ((ld σ i nA j).bind K) := s_bind fun y hy x hx H locs ls hH hS hL => by
  unfold ld at hy
  split at hy
  · rename_i hj
    cases hy
    have h0 := hI H hH i hi
    rw [ha.2 (σ i)] at h0
    refine va_iald (D := G.1) (cl := vwCl) (ws := [(b + i, .inl (G.2.1, (nA, .inl (fun j => Int32.ofInt (σ i j)))))]) C.1 C.2.1 hK (fun q z hz => by
      match q, hz with
      | 0, hz => cases hz; exact h0
      | q + 1, hz => simp at hz) 0 0 rfl rfl (i32_vin hj.1 hj.2 ha.1) hd ?_
    have hn1 := ha.1
    rw [i32_nat ⟨by omega, by omega⟩]
    exact h _ (hσ _ _) x hx H locs ls hH hS hL
  · cases hy
theorem s_iastore (C : Cx p s m args meth c cc nL own) {G : Gt} (hK : KK G s) {lay : Lay} {N b i nA : Nat} {σ : Blk} {j a : Int} {K : Blk → Option α} {J : Blk → Heap → Prop} (hJ : Wd G lay N b J) (hA : ∀ q, Ab b N q → A q) (hσ : Rg σ) (hva : inR a) (hi : i < N) (ha : isA G lay i nA) (hd : decode cc pc = .ok (.iastore, 1)) (h : ∀ σ', Rg σ' → Sim p l e R s m args below meth c nL A Q k n (J σ') (pc + 1) L st (K σ')) : Sim p l e R s m args below meth c nL A Q k n (J σ) pc L (vI a :: vI j :: .ref (b + i) :: st) ((sw σ i nA j a).bind K) := s_bind fun y hy x hx H locs ls hH hS hL => by
  unfold sw at hy
  split at hy
  · rename_i hj
    cases hy
    have hn1 := ha.1
    have h0 := hJ.1 σ H hH i hi
    rw [ha.2 (σ i)] at h0
    refine W.iast C.1 C.2.1 h0 ((hK.2 0 _ rfl).1 nA (fun j => .int (Int32.ofInt (σ i j)))) (fun q => by cases q) (by show ¬ (_ < 0 ∨ (arrV _ _ _).slots.size ≤ _); rw [arrV_size]; exact i32_vin hj.1 hj.2 ha.1) rfl rfl hd fun H1 e1 z oq => ?_
    refine h _ (Rg_up hσ hva) x hx H1 _ ls (hJ.set hH hi z oq ?_) (hS.put z oq (hA _ ⟨by omega, by omega⟩)) hL
    rw [ha.2]
    show H1[b + i]? = some (vp_cell _ _)
    rw [e1, i32_nat ⟨by omega, by omega⟩]
    show some (Cell.setSlot (vp_cell G.2.1 (nA, .inl _)) _ _) = _
    rw [vp_cell_i, vp_cell_i, arrV_store]
    congr 2
    funext q
    by_cases hq : q = j.toNat
    · subst hq
      simp [updV, up2]
    · simp [updV, up2, hq]
  · cases hy
theorem s_aaload (C : Cx p s m args meth c cc nL own) {G : Gt} (hK : KK G s) {lay : Lay} {N b i nA w : Nat} {σ : Blk} {j : Int} {K : Option α} (hI : ∀ H, I H → Bk G lay N b σ H) (hi : i < N) (ha : isQ G lay b i nA w) (hd : decode cc pc = .ok (.aaload, 1)) (h : 0 ≤ j → j < nA → Sim p l e R s m args below meth c nL A Q k n I (pc + 1) L (.ref (b + (w + j.toNat)) :: st) K) : Sim p l e R s m args below meth c nL A Q k n I pc L (vI j :: .ref (b + i) :: st) (if 0 ≤ j ∧ j < (nA : Int) then K else none) := fun x hx H locs ls hH hS hL => by
  split at hx
  · rename_i hj
    have h0 := hI H hH i hi
    rw [ha.2 (σ i)] at h0
    have hn1 := ha.1
    have hjr : inR j := ⟨by omega, by omega⟩
    refine W.aald (v := .ref (b + (w + j.toNat))) (ty := .array .int) C.1 C.2.1 h0 ((hK.2 1 _ rfl).1 nA (fun i => va_rf (if i < nA then some (b + w + i) else none))) rfl (fun q => by cases q) (by show ¬ (_ < 0 ∨ (arrV _ _ _).slots.size ≤ _); rw [arrV_size]; exact i32_vin hj.1 hj.2 ha.1) ?_ rfl rfl hd (h hj.1 hj.2 x hx H locs ls hH hS hL)
    show (arrV _ _ _).slots[_]? = _
    rw [i32_nat hjr, arrV_read _ _ (by omega : j.toNat < nA)]
    dsimp only
    rw [if_pos (by omega : j.toNat < nA), Nat.add_assoc]
    rfl
  · cases hx

end ROWS2
end
section
/-! METHODS: entry, returns, calls -/
theorem gd_tbl {y : MethodName} {cc : ByteArray} {maxL : Nat} {ret : Option FieldType} (h : Cond.code y cc maxL ret ∈ lw_g) : GoodIn lw_g (.code y cc maxL ret :: lw_g) := fun w hw => by
  have h1 : w ∈ lw_g := by
    rcases List.mem_cons.mp hw with h2 | h2
    · rw [h2]; exact h
    · exact h2
  exact ⟨h1, good_of_word (List.mem_filter.mp h1).2⟩
/-- a method's contract over a picture: wherever the picture kk comes to x, the method ends with po x -/
def MetS (l : Launch) (y : MethodName) (cc : ByteArray) (maxL : Nat) (ret : Option FieldType) (rm : Room) (G : Gt) {β : Type} (avs : List Value) (I : Heap → Prop) (po : β → Option Value → Heap → Prop) (A : Nat → Prop) (mc ms : Nat) (kk : Option β) : Prop :=
  ∀ x, kk = some x → Met l y (.code y cc maxL ret :: lw_g) rm (va_Pc avs (fun U => I U.heap ∧ KA G U)) (Qm (po x) A) mc ms A
theorem met_of {l : Launch} {y : MethodName} {cc : ByteArray} {maxL : Nat} {ret : Option FieldType} {rm : Room} {G : Gt} {β : Type} {avs : List Value} {I : Heap → Prop} {po : β → Option Value → Heap → Prop} {A : Nat → Prop} {mc ms : Nat} {kk : Option β} (hy : plainName y.cls = true) (hlen : (lg_sl avs).length ≤ maxL)
    (body : ∀ (p : Program) (e : Env) (s : State) (m : MethodId) (below : List Frame) (meth : Method) (c : Code), Cx p s m avs.toArray meth c cc maxL y.cls → KA G s → meth.sig.returnType = ret → meth.name = y.name → Sim p l e rm s m avs.toArray below meth c maxL A (fun x => MQ below (Qm (po x) A) avs.toArray s mc ms A) 0 0 I 0 (lv_args 0 avs) [] kk) : MetS l y cc maxL ret rm G avs I po A mc ms kk := by
  intro x hx
  refine Met.ofW (cc := cc) (maxL := maxL) (ret := ret) hy rfl ?_
  intro p e s m args below meth c s₁ B hml hv
  obtain ⟨rfl, hI, hK⟩ := hv
  rw [lg_entry_eq]
  exact body p e s m below meth c ⟨B.exec, B.bytes, hml, findClass_of_methodNamed B.named, fun w hw => atoms_spec (ws := .code y cc maxL ret :: lw_g) B.pre w (List.mem_cons_of_mem _ hw), B.notSynchronized⟩ hK B.returns (name_of_methodNamed B.named B.method).1 x hx s.heap [] _ hI va_S.rf (lv_entry avs hlen)
section CALLS
variable {p : Program} {l : Launch} {e : Env} {R : Room} {s : State} {m : MethodId} {args : Array Value} {below : List Frame} {meth : Method} {c : Code}
variable {cc : ByteArray} {nL : Nat} {own : String}
variable {α β : Type} {A : Nat → Prop} {Q : α → State → Prop} {k n : Nat} {I : Heap → Prop} {pc : Nat} {L L' : List (Nat × Value)} {st : List Value} {kk : Option α}
theorem s_iret {po : α → Option Value → Heap → Prop} (C : Cx p s m args meth c cc nL own) (hr : meth.sig.returnType = some .int) {a : Int} {x : α} (hd : decode cc pc = .ok (.ireturn, 1)) (h : ∀ H, I H → po x (some (vI a)) H) : Sim p l e R s m args below meth c nL A (fun x => MQ below (Qm (po x) A) args s k n A) k n I pc L [vI a] (some x) := fun x' hx' H locs ls hI hS hL => by
  cases hx'
  exact W.iret C.1 C.2.1 hr (fun t ht hW => ⟨⟨_, rfl, by rw [ht]; exact h H hI⟩, hS.F ht⟩) hS.2.2 hd C.2.2.2.2.2
theorem s_zret {po : α → Option Value → Heap → Prop} (C : Cx p s m args meth c cc nL own) (hr : meth.sig.returnType = some .boolean) {a : Int} {x : α} (ha : a = 0 ∨ a = 1) (hd : decode cc pc = .ok (.ireturn, 1)) (h : ∀ H, I H → po x (some (vI a)) H) : Sim p l e R s m args below meth c nL A (fun x => MQ below (Qm (po x) A) args s k n A) k n I pc L [vI a] (some x) := fun x' hx' H locs ls hI hS hL => by
  cases hx'
  exact W.zret C.1 C.2.1 hr (by rcases ha with rfl | rfl <;> decide) (fun t ht hW => ⟨⟨_, rfl, by rw [ht]; exact h H hI⟩, hS.F ht⟩) hS.2.2 hd C.2.2.2.2.2
theorem s_vret {po : α → Option Value → Heap → Prop} (C : Cx p s m args meth c cc nL own) (hr : meth.sig.returnType = none) {x : α} (hd : decode cc pc = .ok (.return_, 1)) (h : ∀ H, I H → po x none H) : Sim p l e R s m args below meth c nL A (fun x => MQ below (Qm (po x) A) args s k n A) k n I pc L [] (some x) := fun x' hx' H locs ls hI hS hL => by
  cases hx'
  exact W.vret C.1 C.2.1 hr (fun t ht hW => ⟨⟨_, rfl, by rw [ht]; exact h H hI⟩, hS.F ht⟩) hS.2.2 hd C.2.2.2.2.2
/-- behind any call: what va_Run gives, with an end of the form Qm -/
theorem s_run {G : Gt} {y : MethodName} {rest st0 : List Value} {po : Option Value → Heap → Prop} {A1 : Nat → Prop} {mc ms : Nat} {a : Array Value} {x : α} {H : Heap} {locs : List Loc} {ls : Array Slot} (hA : ∀ q, A1 q → A q) (hrun : va_Run p l e R s m args below meth c H locs k n mc ms (F0 m pc ls st0) rest (Qm po A1 a) A1) (hS : va_S A s.heap H locs)
    (h : ∀ v H1 locs1, po v H1 → H.size ≤ H1.size → (∀ q, q < H.size → ¬ A1 q → H1[q]? = H[q]?) → va_S A s.heap H1 locs1 → W p l e R s m args below meth c H1 locs1 (k + mc) (n + ms) (Q x) (F0 m (pc + 3) ls (v.toList ++ rest))) : W p l e R s m args below meth c H locs k n (Q x) (F0 m pc ls st0) := by
  intro T hT X
  obtain ⟨v, st₀, t, T', L1, h0, X', hL, e1, e2, ⟨⟨v', hv, hp⟩, hz, hk⟩, st1⟩ := hrun T hT X
  cases hv
  rw [h0] at hz hk
  obtain ⟨t2, a1, b1⟩ := h v T'.heap (locs ++ L1) (by rw [e1]; exact hp) (by rw [e1]; exact hz) (fun q h1 h2 => by rw [e1]; exact hk q h1 h2)
    ⟨Nat.le_trans hS.1 (by rw [e1]; exact hz), fun q h1 h2 => by rw [e1, hk q (Nat.lt_of_lt_of_le h1 hS.1) (fun z => h2 (hA q z))]; exact hS.2.1 q h1 h2, fun q hq => by
      rcases List.mem_append.mp hq with h | h
      · exact hS.2.2 q h
      · exact hA _ (hL q h)⟩ T' rfl X'
  exact ⟨t2, st1 t2 a1, b1⟩
theorem pc_blind {avs : List Value} {I : Heap → Prop} {G : Gt} : FrameBlind (va_Pc avs (fun U => I U.heap ∧ KA G U)) := fun a U g mk q => ⟨q.1, q.2.1, KA.moved (u := U) (U := U.calling g mk a) (Vm.Alike.refl U.vm) q.2.2⟩
theorem pc_in {avs : List Value} {I : Heap → Prop} {G : Gt} {H : Heap} (hK : KA G s) (hI : I H) (U : State) (hU : U.heap = H) (hW : s.WarmedH U.vm) : va_Pc avs (fun U => I U.heap ∧ KA G U) avs.toArray U := ⟨rfl, by rw [hU]; exact hI, KA.moved hW.alike hK⟩
theorem cb_of (C : Cx p s m args meth c cc nL own) {y : MethodName} {bytes : ByteArray} {maxL : Nat} {ret : Option FieldType} {rm : Room} {mc ms ix : Nat} (np : Nat) (hcode : Cond.code y bytes maxL ret ∈ lw_g) (hini : Cond.initialized y.cls ∈ lw_g) (hl : Cond.methodLink own ix y ∈ lw_g) (hrc : rm.cells = mc) (hrs : rm.slots = ms)
    (hd : y.cls ≠ "java/lang/invoke/MethodHandle" ∧ y.cls ≠ "java/lang/invoke/VarHandle" ∧ (parseMethodDescriptor y.desc).map (fun d => d.parameters.length) = some np) (hR : rm.frames + 1 ≤ R.frames ∧ 8 + (maxL + 11) + rm.locals ≤ R.locals) : CallB R s args own ix y bytes maxL ret (.code y bytes maxL ret :: lw_g) rm mc ms np :=
  callB_of np C.2.2.2.2.1 (gd_tbl hcode) rfl hrc hrs (C.2.2.2.2.1 _ hini) (C.2.2.2.2.1 _ hl) hd hR
/-- a call of an object's method -/
theorem s_callV (C : Cx p s m args meth c cc nL own) {G : Gt} (hK : KA G s) {y : MethodName} {bytes : ByteArray} {maxL ix : Nat} {ret : Option FieldType} {rm : Room} {As rest : List Value} {a : Nat} {po : β → Option Value → Heap → Prop} {A1 : Nat → Prop} {mc ms : Nat} {kc : Option β} {K : β → Option α} (np : Nat)
    (hM : MetS l y bytes maxL ret rm G (.ref a :: As) I po A1 mc ms kc) (hA : ∀ q, A1 q → A q) (hq : CallB R s args own ix y bytes maxL ret (.code y bytes maxL ret :: lw_g) rm mc ms np) (hin : Cond.instanceMethod y ∈ lw_g) (hse : Cond.selects y.cls y y ∈ lw_g) (hrv : ∀ H, I H → ∃ cell : Cell, H[a]? = some cell ∧ cell.vm.isStatics = false ∧ s.vm.findClass y.cls = some cell.cls)
    (hnp : As.length = np) (hcat : (rest.map fun v => v.category).sum ≤ 8) (hd : decode cc pc = .ok (.invokevirtual ix, 3)) (hf : k + mc ≤ R.cells ∧ n + ms ≤ R.slots)
    (h : ∀ x v, kc = some x → Sim p l e R s m args below meth c nL A Q (k + mc) (n + ms) (po x v) (pc + 3) L (v.toList ++ rest) (K x)) : Sim p l e R s m args below meth c nL A Q k n I pc L (As.reverse ++ .ref a :: rest) (kc.bind K) := s_bind fun z hz x hx H locs ls hI hS hL =>
  s_run (G := G) (y := y) hA (va_runV (b := a) (As := As) (rest := rest) (C := y.cls) ⟨C.1, C.2.1, C.2.2.1, C.2.2.2.1, C.2.2.2.2.1⟩ (hM z hz) ⟨hq, C.2.2.2.2.1 _ hin, C.2.2.2.2.1 _ hse⟩ ⟨pc_blind, hrv H hI, fun U hU hW => pc_in hK hI U hU hW⟩ rfl hnp hL.1 rfl (lv_room hcat) hd hf) hS (fun v H1 locs1 hp _ _ hS1 => h z v hz x hx H1 locs1 ls hp hS1 hL)
/-- a call of a static method -/
theorem s_callS (C : Cx p s m args meth c cc nL own) {G : Gt} (hK : KA G s) {y : MethodName} {bytes : ByteArray} {maxL ix : Nat} {ret : Option FieldType} {rm : Room} {As rest : List Value} {po : β → Option Value → Heap → Prop} {A1 : Nat → Prop} {mc ms : Nat} {kc : Option β} {K : β → Option α} (np : Nat)
    (hM : MetS l y bytes maxL ret rm G As I po A1 mc ms kc) (hA : ∀ q, A1 q → A q) (hq : CallB R s args own ix y bytes maxL ret (.code y bytes maxL ret :: lw_g) rm mc ms np) (hst : Cond.static y ∈ lw_g)
    (hnp : As.length = np) (hcat : (rest.map fun v => v.category).sum ≤ 8) (hd : decode cc pc = .ok (.invokestatic ix, 3)) (hf : k + mc ≤ R.cells ∧ n + ms ≤ R.slots)
    (h : ∀ x v, kc = some x → Sim p l e R s m args below meth c nL A Q (k + mc) (n + ms) (po x v) (pc + 3) L (v.toList ++ rest) (K x)) : Sim p l e R s m args below meth c nL A Q k n I pc L (As.reverse ++ rest) (kc.bind K) := s_bind fun z hz x hx H locs ls hI hS hL =>
  s_run (G := G) (y := y) hA (va_runS (As := As) (rest := rest) ⟨C.1, C.2.1, C.2.2.1, C.2.2.2.1, C.2.2.2.2.1⟩ (hM z hz) ⟨hq, C.2.2.2.2.1 _ hst⟩ ⟨pc_blind, fun U hU hW => pc_in hK hI U hU hW⟩ rfl hnp hL.1 rfl (lv_room hcat) hd hf) hS (fun v H1 locs1 hp _ _ hS1 => h z v hz x hx H1 locs1 ls hp hS1 hL)
/-! three kinds of methods: an answer alone; an answer and a new state; a new state alone -/
def poP (I : Heap → Prop) (r : Int) (v : Option Value) (H : Heap) : Prop := v = some (vI r) ∧ inR r ∧ I H
def poW (J : Blk → Heap → Prop) (x : Int × Blk) (v : Option Value) (H : Heap) : Prop := v = some (vI x.1) ∧ inR x.1 ∧ Rg x.2 ∧ J x.2 H
def poU (J : Blk → Heap → Prop) (σ : Blk) (v : Option Value) (H : Heap) : Prop := v = none ∧ Rg σ ∧ J σ H
def bd2 (x : Option (Int × Blk)) (K : Int → Blk → Option α) : Option α := x.bind fun z => K z.1 z.2
theorem s_poP {r : Int} {v : Option Value} {rest : List Value} (h : inR r → Sim p l e R s m args below meth c nL A Q k n I pc L (vI r :: rest) kk) : Sim p l e R s m args below meth c nL A Q k n (poP I r v) pc L (v.toList ++ rest) kk := fun x hx H locs ls hI hS hL => by
  obtain ⟨rfl, h1, h2⟩ := hI
  exact h h1 x hx H locs ls h2 hS hL
theorem s_poW {J : Blk → Heap → Prop} {z : Int × Blk} {v : Option Value} {rest : List Value} (h : inR z.1 → Rg z.2 → Sim p l e R s m args below meth c nL A Q k n (J z.2) pc L (vI z.1 :: rest) kk) : Sim p l e R s m args below meth c nL A Q k n (poW J z v) pc L (v.toList ++ rest) kk := fun x hx H locs ls hI hS hL => by
  obtain ⟨rfl, h1, h2, h3⟩ := hI
  exact h h1 h2 x hx H locs ls h3 hS hL
theorem s_poU {J : Blk → Heap → Prop} {σ : Blk} {v : Option Value} {rest : List Value} (h : Rg σ → Sim p l e R s m args below meth c nL A Q k n (J σ) pc L rest kk) : Sim p l e R s m args below meth c nL A Q k n (poU J σ v) pc L (v.toList ++ rest) kk := fun x hx H locs ls hI hS hL => by
  obtain ⟨rfl, h1, h2⟩ := hI
  exact h h1 x hx H locs ls h2 hS hL
theorem s_recv {G : Gt} (hK : KK G s) {lay : Lay} {N b i ci : Nat} {σ : Blk} {fs : (Nat → Int) → List Value} {q : vw_C} (hB : ∀ H, I H → Bk G lay N b σ H) (hi : i < N) (ho : isO lay i ci fs) (hc : vwCl[ci]? = some q) : ∀ H, I H → ∃ cell : Cell, H[b + i]? = some cell ∧ cell.vm.isStatics = false ∧ s.vm.findClass q.1 = some cell.cls := fun H hH => by
  have h0 := hB H hH i hi
  rw [ho (σ i)] at h0
  exact va_recv (ws := [(b + i, .inr (ci, fs (σ i)))]) (q0 := 0) hK (fun j z hz => by
    match j, hz with
    | 0, hz => cases hz; exact h0
    | j + 1, hz => simp at hz) hc rfl
end CALLS
section CALLS2
variable {p : Program} {l : Launch} {e : Env} {R : Room} {s : State} {m : MethodId} {args : Array Value} {below : List Frame} {meth : Method} {c : Code}
variable {cc : ByteArray} {nL : Nat} {own : String}
variable {α β : Type} {A : Nat → Prop} {Q : α → State → Prop} {k n : Nat} {I : Heap → Prop} {pc : Nat} {L L' : List (Nat × Value)} {st : List Value} {kk : Option α}
def nm {α : Type} (a : Int) (K : Int → Option α) : Option α := K a
theorem s_nm {a : Int} {K : Int → Option α} (ha : inR a) (h : ∀ v, inR v → Sim p l e R s m args below meth c nL A Q k n I pc L (vI v :: st) (K v)) : Sim p l e R s m args below meth c nL A Q k n I pc L (vI a :: st) (nm a K) := h a ha
theorem s_iincK (C : Cx p s m args meth c cc nL own) {i : Nat} {a z : Int} {K : Int → Option α} (hd : decode cc pc = .ok (.iinc i z, 3)) (q : Nat) (hq : L[q]? = some (i, vI a)) (hn : i < nL) (L1 : Int → List (Nat × Value)) (hl : ∀ v, (i, vI v) :: L.filter (fun q => !(q.1 == i) && !(q.1 + 1 == i && q.2.category == 2)) = L1 v) (h : ∀ v, inR v → Sim p l e R s m args below meth c nL A Q k n I (pc + 3) (L1 v) st (K v)) : Sim p l e R s m args below meth c nL A Q k n I pc L st ((ck (a + z)).bind K) := s_ck fun hv => s_iinc C hd q hq hn (hl _) (h _ hv)
theorem s_callV_P (C : Cx p s m args meth c cc nL own) {G : Gt} (hK : KA G s) {y : MethodName} {bytes : ByteArray} {maxL ix : Nat} {ret : Option FieldType} {rm : Room} {As rest st0 : List Value} {a : Nat} {kc : Option Int} {K : Int → Option α} (np : Nat)
    (hM : MetS l y bytes maxL ret rm G (.ref a :: As) I (poP I) (fun _ => False) 0 0 kc) (hst0 : As.reverse ++ .ref a :: rest = st0) (hq : CallB R s args own ix y bytes maxL ret (.code y bytes maxL ret :: lw_g) rm 0 0 np) (hin : Cond.instanceMethod y ∈ lw_g) (hse : Cond.selects y.cls y y ∈ lw_g) (hrv : ∀ H, I H → ∃ cell : Cell, H[a]? = some cell ∧ cell.vm.isStatics = false ∧ s.vm.findClass y.cls = some cell.cls)
    (hnp : As.length = np) (hcat : (rest.map fun v => v.category).sum ≤ 8) (hd : decode cc pc = .ok (.invokevirtual ix, 3)) (hf : k ≤ R.cells ∧ n ≤ R.slots)
    (h : ∀ r, inR r → Sim p l e R s m args below meth c nL A Q k n I (pc + 3) L (vI r :: rest) (K r)) : Sim p l e R s m args below meth c nL A Q k n I pc L st0 (kc.bind K) := by
  subst hst0
  exact s_callV C hK np hM (fun _ h => h.elim) hq hin hse hrv hnp hcat hd hf (fun r v _ => s_poP (fun hr => h r hr))
theorem s_callV_W (C : Cx p s m args meth c cc nL own) {G : Gt} (hK : KA G s) {y : MethodName} {bytes : ByteArray} {maxL ix : Nat} {ret : Option FieldType} {rm : Room} {As rest st0 : List Value} {a : Nat} {J : Blk → Heap → Prop} {σ : Blk} {A1 : Nat → Prop} {kc : Option (Int × Blk)} {K : Int → Blk → Option α} (np : Nat)
    (hM : MetS l y bytes maxL ret rm G (.ref a :: As) (J σ) (poW J) A1 0 0 kc) (hA : ∀ q, A1 q → A q) (hst0 : As.reverse ++ .ref a :: rest = st0) (hq : CallB R s args own ix y bytes maxL ret (.code y bytes maxL ret :: lw_g) rm 0 0 np) (hin : Cond.instanceMethod y ∈ lw_g) (hse : Cond.selects y.cls y y ∈ lw_g) (hrv : ∀ H, J σ H → ∃ cell : Cell, H[a]? = some cell ∧ cell.vm.isStatics = false ∧ s.vm.findClass y.cls = some cell.cls)
    (hnp : As.length = np) (hcat : (rest.map fun v => v.category).sum ≤ 8) (hd : decode cc pc = .ok (.invokevirtual ix, 3)) (hf : k ≤ R.cells ∧ n ≤ R.slots)
    (h : ∀ r σ', inR r → Rg σ' → Sim p l e R s m args below meth c nL A Q k n (J σ') (pc + 3) L (vI r :: rest) (K r σ')) : Sim p l e R s m args below meth c nL A Q k n (J σ) pc L st0 (bd2 kc K) := by
  subst hst0
  exact s_callV (K := fun z => K z.1 z.2) C hK np hM hA hq hin hse hrv hnp hcat hd hf (fun z v _ => s_poW (fun hr hs => h z.1 z.2 hr hs))
theorem s_callV_U (C : Cx p s m args meth c cc nL own) {G : Gt} (hK : KA G s) {y : MethodName} {bytes : ByteArray} {maxL ix : Nat} {ret : Option FieldType} {rm : Room} {As rest st0 : List Value} {a : Nat} {J : Blk → Heap → Prop} {σ : Blk} {A1 : Nat → Prop} {kc : Option Blk} {K : Blk → Option α} (np : Nat)
    (hM : MetS l y bytes maxL ret rm G (.ref a :: As) (J σ) (poU J) A1 0 0 kc) (hA : ∀ q, A1 q → A q) (hst0 : As.reverse ++ .ref a :: rest = st0) (hq : CallB R s args own ix y bytes maxL ret (.code y bytes maxL ret :: lw_g) rm 0 0 np) (hin : Cond.instanceMethod y ∈ lw_g) (hse : Cond.selects y.cls y y ∈ lw_g) (hrv : ∀ H, J σ H → ∃ cell : Cell, H[a]? = some cell ∧ cell.vm.isStatics = false ∧ s.vm.findClass y.cls = some cell.cls)
    (hnp : As.length = np) (hcat : (rest.map fun v => v.category).sum ≤ 8) (hd : decode cc pc = .ok (.invokevirtual ix, 3)) (hf : k ≤ R.cells ∧ n ≤ R.slots)
    (h : ∀ σ', Rg σ' → Sim p l e R s m args below meth c nL A Q k n (J σ') (pc + 3) L rest (K σ')) : Sim p l e R s m args below meth c nL A Q k n (J σ) pc L st0 (kc.bind K) := by
  subst hst0
  exact s_callV C hK np hM hA hq hin hse hrv hnp hcat hd hf (fun z v _ => s_poU (fun hs => h z hs))
theorem s_callS_P (C : Cx p s m args meth c cc nL own) {G : Gt} (hK : KA G s) {y : MethodName} {bytes : ByteArray} {maxL ix : Nat} {ret : Option FieldType} {rm : Room} {As rest st0 : List Value} {kc : Option Int} {K : Int → Option α} (np : Nat)
    (hM : MetS l y bytes maxL ret rm G As I (poP I) (fun _ => False) 0 0 kc) (hst0 : As.reverse ++ rest = st0) (hq : CallB R s args own ix y bytes maxL ret (.code y bytes maxL ret :: lw_g) rm 0 0 np) (hsm : Cond.static y ∈ lw_g)
    (hnp : As.length = np) (hcat : (rest.map fun v => v.category).sum ≤ 8) (hd : decode cc pc = .ok (.invokestatic ix, 3)) (hf : k ≤ R.cells ∧ n ≤ R.slots)
    (h : ∀ r, inR r → Sim p l e R s m args below meth c nL A Q k n I (pc + 3) L (vI r :: rest) (K r)) : Sim p l e R s m args below meth c nL A Q k n I pc L st0 (kc.bind K) := by
  subst hst0
  exact s_callS C hK np hM (fun _ h => h.elim) hq hsm hnp hcat hd hf (fun r v _ => s_poP (fun hr => h r hr))
theorem s_callS_U (C : Cx p s m args meth c cc nL own) {G : Gt} (hK : KA G s) {y : MethodName} {bytes : ByteArray} {maxL ix : Nat} {ret : Option FieldType} {rm : Room} {As rest st0 : List Value} {J : Blk → Heap → Prop} {σ : Blk} {A1 : Nat → Prop} {kc : Option Blk} {K : Blk → Option α} (np : Nat)
    (hM : MetS l y bytes maxL ret rm G As (J σ) (poU J) A1 0 0 kc) (hA : ∀ q, A1 q → A q) (hst0 : As.reverse ++ rest = st0) (hq : CallB R s args own ix y bytes maxL ret (.code y bytes maxL ret :: lw_g) rm 0 0 np) (hsm : Cond.static y ∈ lw_g)
    (hnp : As.length = np) (hcat : (rest.map fun v => v.category).sum ≤ 8) (hd : decode cc pc = .ok (.invokestatic ix, 3)) (hf : k ≤ R.cells ∧ n ≤ R.slots)
    (h : ∀ σ', Rg σ' → Sim p l e R s m args below meth c nL A Q k n (J σ') (pc + 3) L rest (K σ')) : Sim p l e R s m args below meth c nL A Q k n (J σ) pc L st0 (kc.bind K) := by
  subst hst0
  exact s_callS C hK np hM hA hq hsm hnp hcat hd hf (fun z v _ => s_poU (fun hs => h z hs))
theorem s_mmin (C : Cx p s m args meth c cc nL own) {a b : Int} {ix : Nat} (ha : inR a) (hb : inR b) (hl : Cond.methodLink own ix Lib.Math.min.name ∈ lw_g) (hst : Cond.static Lib.Math.min.name ∈ lw_g) (hini : Cond.initialized "java/lang/Math" ∈ lw_g) (hco : Cond.code Lib.Math.min.name Lib.Math.min.code 2 (some .int) ∈ lw_g) (hfr : 1 ≤ R.frames) (hlo : (st.map fun v => v.category).sum + 13 ≤ R.locals) (hf : k ≤ R.cells ∧ n ≤ R.slots) (hd : decode cc pc = .ok (.invokestatic ix, 3)) (h : Sim p l e R s m args below meth c nL A Q k n I (pc + 3) L (vI (imin a b) :: st) kk) : Sim p l e R s m args below meth c nL A Q k n I pc L (vI b :: vI a :: st) kk := fun x hx H locs ls hI hS hL => va_mmin C.1 C.2.1 (C.2.2.1.trans hL.1.symm) C.2.2.2.1 (C.2.2.2.2.1 _ hl) (C.2.2.2.2.1 _ hst) (C.2.2.2.2.1 _ hini) (C.2.2.2.2.1 _ hco) hfr hlo hf.1 hf.2 hd (by
    have e1 : (if Int32.ofInt b < Int32.ofInt a then Int32.ofInt b else Int32.ofInt a) = Int32.ofInt (imin a b) := by
      unfold imin
      by_cases q : b < a
      · rw [if_pos q, if_pos ((i32_lt hb ha).mpr q)]
      · rw [if_neg q, if_neg (fun z => q ((i32_lt hb ha).mp z))]
    rw [e1]
    exact h x hx H locs ls hI hS hL)
theorem s_mmax (C : Cx p s m args meth c cc nL own) {a b : Int} {ix : Nat} (ha : inR a) (hb : inR b) (hl : Cond.methodLink own ix Lib.Math.max.name ∈ lw_g) (hst : Cond.static Lib.Math.max.name ∈ lw_g) (hini : Cond.initialized "java/lang/Math" ∈ lw_g) (hco : Cond.code Lib.Math.max.name Lib.Math.max.code 2 (some .int) ∈ lw_g) (hfr : 1 ≤ R.frames) (hlo : (st.map fun v => v.category).sum + 13 ≤ R.locals) (hf : k ≤ R.cells ∧ n ≤ R.slots) (hd : decode cc pc = .ok (.invokestatic ix, 3)) (h : Sim p l e R s m args below meth c nL A Q k n I (pc + 3) L (vI (imax a b) :: st) kk) : Sim p l e R s m args below meth c nL A Q k n I pc L (vI b :: vI a :: st) kk := fun x hx H locs ls hI hS hL => va_mmax C.1 C.2.1 (C.2.2.1.trans hL.1.symm) C.2.2.2.1 (C.2.2.2.2.1 _ hl) (C.2.2.2.2.1 _ hst) (C.2.2.2.2.1 _ hini) (C.2.2.2.2.1 _ hco) hfr hlo hf.1 hf.2 hd (by
    have e1 : (if Int32.ofInt a < Int32.ofInt b then Int32.ofInt b else Int32.ofInt a) = Int32.ofInt (imax a b) := by
      unfold imax
      by_cases q : a < b
      · rw [if_pos q, if_pos ((i32_lt ha hb).mpr q)]
      · rw [if_neg q, if_neg (fun z => q ((i32_lt ha hb).mp z))]
    rw [e1]
    exact h x hx H locs ls hI hS hL)
theorem s_tabIn (C : Cx p s m args meth c cc nL own) {dflt lo hi : Int} {offs : Array Int} {len : Nat} {a off : Int} {tgt : Nat} (z : Int) (hd : decode cc pc = .ok (.tableswitch dflt lo hi offs, len)) (ha : inR a) (hz : a = z) (h1 : ¬ z < lo) (h2 : ¬ hi < z) (ho : offs[(z - lo).toNat]? = some off) (ht : (pc : Int) + off = (tgt : Int)) (h : Sim p l e R s m args below meth c nL A Q k n I tgt L st kk) : Sim p l e R s m args below meth c nL A Q k n I pc L (vI a :: st) kk := fun x hx H locs ls hI hS hL => by
  subst hz
  exact lv_tableIn C.1 C.2.1 hd (by rw [i32_of ha]; exact h1) (by rw [i32_of ha]; exact h2) (by rw [i32_of ha]; exact ho) ht (h x hx H locs ls hI hS hL)
theorem s_tabOut (C : Cx p s m args meth c cc nL own) {dflt lo hi : Int} {offs : Array Int} {len : Nat} {a : Int} {tgt : Nat} (hd : decode cc pc = .ok (.tableswitch dflt lo hi offs, len)) (ha : inR a) (hz : a < lo ∨ hi < a) (ht : (pc : Int) + dflt = (tgt : Int)) (h : Sim p l e R s m args below meth c nL A Q k n I tgt L st kk) : Sim p l e R s m args below meth c nL A Q k n I pc L (vI a :: st) kk := fun x hx H locs ls hI hS hL =>
  lv_tableOut C.1 C.2.1 hd (by rw [i32_of ha]; exact hz) ht (h x hx H locs ls hI hS hL)
theorem s_lcmp (C : Cx p s m args meth c cc nL own) {a b : Int64} (hd : decode cc pc = .ok (.lcmp, 1)) (h : Sim p l e R s m args below meth c nL A Q k n I (pc + 1) L (vI (lcmp a b) :: st) kk) : Sim p l e R s m args below meth c nL A Q k n I pc L (.long b :: .long a :: st) kk := fun x hx H locs ls hI hS hL => W.lcmp C.1 C.2.1 hd (by rw [← i32_to (lg_cmp a b)]; exact h x hx H locs ls hI hS hL)
theorem s_ck0 {a : Int} {K : Int → Option α} (h : ∀ v, inR v → Sim p l e R s m args below meth c nL A Q k n I pc L (vI v :: st) (K v)) : Sim p l e R s m args below meth c nL A Q k n I pc L (vI a :: st) ((ck a).bind K) := s_ck (h a)
theorem s_ck1 {w0 : Value} {a : Int} {K : Int → Option α} (h : ∀ v, inR v → Sim p l e R s m args below meth c nL A Q k n I pc L (w0 :: vI v :: st) (K v)) : Sim p l e R s m args below meth c nL A Q k n I pc L (w0 :: vI a :: st) ((ck a).bind K) := s_ck (h a)
theorem s_ck2 {w0 w1 : Value} {a : Int} {K : Int → Option α} (h : ∀ v, inR v → Sim p l e R s m args below meth c nL A Q k n I pc L (w0 :: w1 :: vI v :: st) (K v)) : Sim p l e R s m args below meth c nL A Q k n I pc L (w0 :: w1 :: vI a :: st) ((ck a).bind K) := s_ck (h a)
theorem s_ck3 {w0 w1 w2 : Value} {a : Int} {K : Int → Option α} (h : ∀ v, inR v → Sim p l e R s m args below meth c nL A Q k n I pc L (w0 :: w1 :: w2 :: vI v :: st) (K v)) : Sim p l e R s m args below meth c nL A Q k n I pc L (w0 :: w1 :: w2 :: vI a :: st) ((ck a).bind K) := s_ck (h a)
theorem s_ck4 {w0 w1 w2 w3 : Value} {a : Int} {K : Int → Option α} (h : ∀ v, inR v → Sim p l e R s m args below meth c nL A Q k n I pc L (w0 :: w1 :: w2 :: w3 :: vI v :: st) (K v)) : Sim p l e R s m args below meth c nL A Q k n I pc L (w0 :: w1 :: w2 :: w3 :: vI a :: st) ((ck a).bind K) := s_ck (h a)
theorem s_ck5 {w0 w1 w2 w3 w4 : Value} {a : Int} {K : Int → Option α} (h : ∀ v, inR v → Sim p l e R s m args below meth c nL A Q k n I pc L (w0 :: w1 :: w2 :: w3 :: w4 :: vI v :: st) (K v)) : Sim p l e R s m args below meth c nL A Q k n I pc L (w0 :: w1 :: w2 :: w3 :: w4 :: vI a :: st) ((ck a).bind K) := s_ck (h a)
theorem s_ck6 {w0 w1 w2 w3 w4 w5 : Value} {a : Int} {K : Int → Option α} (h : ∀ v, inR v → Sim p l e R s m args below meth c nL A Q k n I pc L (w0 :: w1 :: w2 :: w3 :: w4 :: w5 :: vI v :: st) (K v)) : Sim p l e R s m args below meth c nL A Q k n I pc L (w0 :: w1 :: w2 :: w3 :: w4 :: w5 :: vI a :: st) ((ck a).bind K) := s_ck (h a)
end CALLS2
end
section
/-! THE BLOCKS: what cell lies where -/
def ia (G : Gt) (n : Nat) (d : Nat → Int) : va_E := .inl (G.2.1, (n, .inl (fun j => Int32.ofInt (d j))))
def iq (G : Gt) (n w : Nat) : va_E := .inl (G.2.2.1, (n, .inr (.inr (.inr (.inr (fun j => if j < n then some (w + j) else none))))))
def fsBook (b : Nat) (d : Nat → Int) : List Value := [vI (d 0), vI (d 1), vI (d 2), .ref (b + 1), .ref (b + 6), .ref (b + 7), .ref (b + 8), .ref (b + 9), .ref (b + 10), .ref (b + 11), .ref (b + 12), .ref (b + 43)]
def fsPages (b : Nat) (_ : Nat → Int) : List Value := [.ref (b + 2), .ref (b + 3), .ref (b + 4), .ref (b + 5)]
def fsPad (b : Nat) (d : Nat → Int) : List Value := [.ref (b + 1), vI (d 1), vI (d 2), .ref (b + 2), .ref (b + 3), .ref (b + 4), vI (d 6), vI (d 7), vI (d 8)]
def fsModel (b : Nat) (d : Nat → Int) : List Value := [.ref (b + 1), .ref (b + 2), .ref (b + 3), .ref (b + 4), vI (d 4), .ref (b + 5), .ref (b + 6), .ref (b + 7), vI (d 8), .ref (b + 8), vI (d 10), .ref (b + 9), vI (d 12)]
def layBook (G : Gt) (b : Nat) : Lay := fun i d => if i < 13 then (match i with
    | 0 => .inr (0, fsBook b d)
    | 1 => .inr (3, fsPages b d)
    | 2 => ia G 400 d
    | 3 => ia G 400 d
    | 4 => ia G 400 d
    | 5 => ia G 10 d
    | 6 => ia G 100 d
    | 7 => ia G 30 d
    | 8 => ia G 30 d
    | 9 => ia G 30 d
    | 10 => ia G 30 d
    | 11 => ia G 30 d
    | _ => iq G 30 (b + 13)) else if i = 43 then iq G 30 (b + 44) else ia G 40 d
def layPad (G : Gt) (b : Nat) : Lay := fun i d => match i with
    | 0 => .inr (2, fsPad b d)
    | 1 => ia G 80 d
    | _ => ia G 27 d
def layModel (G : Gt) (b : Nat) : Lay := fun i d => match i with
    | 0 => .inr (5, fsModel b d)
    | 1 => ia G 763 d
    | 2 => ia G 763 d
    | 3 => ia G 763 d
    | 4 => ia G 4578 d
    | 5 => ia G 1526 d
    | 6 => ia G 2 d
    | 7 => ia G 80 d
    | _ => ia G 40 d
theorem o_Book {G : Gt} {b : Nat} : isO (layBook G b) 0 0 (fsBook b) := fun _ => rfl
theorem o_Pages {G : Gt} {b : Nat} : isO (layBook G b) 1 3 (fsPages b) := fun _ => rfl
theorem o_Pad {G : Gt} {b : Nat} : isO (layPad G b) 0 2 (fsPad b) := fun _ => rfl
theorem o_Model {G : Gt} {b : Nat} : isO (layModel G b) 0 5 (fsModel b) := fun _ => rfl
theorem a_Book_2 {G : Gt} {b : Nat} : isA G (layBook G b) 2 400 := ⟨by decide, fun _ => rfl⟩
theorem a_Book_3 {G : Gt} {b : Nat} : isA G (layBook G b) 3 400 := ⟨by decide, fun _ => rfl⟩
theorem a_Book_4 {G : Gt} {b : Nat} : isA G (layBook G b) 4 400 := ⟨by decide, fun _ => rfl⟩
theorem a_Book_5 {G : Gt} {b : Nat} : isA G (layBook G b) 5 10 := ⟨by decide, fun _ => rfl⟩
theorem a_Book_6 {G : Gt} {b : Nat} : isA G (layBook G b) 6 100 := ⟨by decide, fun _ => rfl⟩
theorem a_Book_7 {G : Gt} {b : Nat} : isA G (layBook G b) 7 30 := ⟨by decide, fun _ => rfl⟩
theorem a_Book_8 {G : Gt} {b : Nat} : isA G (layBook G b) 8 30 := ⟨by decide, fun _ => rfl⟩
theorem a_Book_9 {G : Gt} {b : Nat} : isA G (layBook G b) 9 30 := ⟨by decide, fun _ => rfl⟩
theorem a_Book_10 {G : Gt} {b : Nat} : isA G (layBook G b) 10 30 := ⟨by decide, fun _ => rfl⟩
theorem a_Book_11 {G : Gt} {b : Nat} : isA G (layBook G b) 11 30 := ⟨by decide, fun _ => rfl⟩
theorem a_Book_13 {G : Gt} {b j : Nat} (h : j < 30) : isA G (layBook G b) (13 + j) 40 := ⟨by decide, fun d => by
  unfold layBook
  rw [if_neg (by omega), if_neg (by omega)]
  rfl⟩
theorem a_Book_44 {G : Gt} {b j : Nat} (h : j < 30) : isA G (layBook G b) (44 + j) 40 := ⟨by decide, fun d => by
  unfold layBook
  rw [if_neg (by omega), if_neg (by omega)]
  rfl⟩
theorem q_Book_12 {G : Gt} {b : Nat} : isQ G (layBook G b) b 12 30 13 := ⟨by decide, fun _ => rfl⟩
theorem q_Book_43 {G : Gt} {b : Nat} : isQ G (layBook G b) b 43 30 44 := ⟨by decide, fun _ => rfl⟩
theorem a_Pad_1 {G : Gt} {b : Nat} : isA G (layPad G b) 1 80 := ⟨by decide, fun _ => rfl⟩
theorem a_Pad_2 {G : Gt} {b : Nat} : isA G (layPad G b) 2 27 := ⟨by decide, fun _ => rfl⟩
theorem a_Pad_3 {G : Gt} {b : Nat} : isA G (layPad G b) 3 27 := ⟨by decide, fun _ => rfl⟩
theorem a_Pad_4 {G : Gt} {b : Nat} : isA G (layPad G b) 4 27 := ⟨by decide, fun _ => rfl⟩
theorem a_Model_1 {G : Gt} {b : Nat} : isA G (layModel G b) 1 763 := ⟨by decide, fun _ => rfl⟩
theorem a_Model_2 {G : Gt} {b : Nat} : isA G (layModel G b) 2 763 := ⟨by decide, fun _ => rfl⟩
theorem a_Model_3 {G : Gt} {b : Nat} : isA G (layModel G b) 3 763 := ⟨by decide, fun _ => rfl⟩
theorem a_Model_4 {G : Gt} {b : Nat} : isA G (layModel G b) 4 4578 := ⟨by decide, fun _ => rfl⟩
theorem a_Model_5 {G : Gt} {b : Nat} : isA G (layModel G b) 5 1526 := ⟨by decide, fun _ => rfl⟩
theorem a_Model_6 {G : Gt} {b : Nat} : isA G (layModel G b) 6 2 := ⟨by decide, fun _ => rfl⟩
theorem a_Model_7 {G : Gt} {b : Nat} : isA G (layModel G b) 7 80 := ⟨by decide, fun _ => rfl⟩
theorem a_Model_8 {G : Gt} {b : Nat} : isA G (layModel G b) 8 40 := ⟨by decide, fun _ => rfl⟩
theorem a_Model_9 {G : Gt} {b : Nat} : isA G (layModel G b) 9 40 := ⟨by decide, fun _ => rfl⟩
def fu : Nat := 10000
end
section
/-! rows by program: joins and loops, by the kinds of what they carry (I an int, J a long, B the state) -/
section SHAPES
variable {p : Program} {l : Launch} {e : Env} {R : Room} {s : State} {m : MethodId} {args : Array Value} {below : List Frame} {meth : Method} {c : Code}
variable {cc : ByteArray} {nL : Nat} {own : String}
variable {α β : Type} {A : Nat → Prop} {Q : α → State → Prop} {k n : Nat} {I : Heap → Prop} {pc : Nat} {L L' : List (Nat × Value)} {st : List Value} {kk : Option α}
def pf {α : Type} (σ : Blk) (c k : Nat) (v : Int) (K : Blk → Option α) : Option α := K (up2 σ c k v)
theorem s_putP (C : Cx p s m args meth c cc nL own) {G : Gt} (hK : KK G s) {lay : Lay} {N b i ci : Nat} {σ : Blk} {fs : (Nat → Int) → List Value} {Cn : String} {T : u_T} {ty0 : Nat → FieldType} {Nf ix : Nat} {a : Int} {J : Blk → Heap → Prop} {K : Blk → Option α} (hJ : Wd G lay N b J) (hA : ∀ q, Ab b N q → A q) (hσ : Rg σ) (ha : inR a) (hi : i < N) (ho : isO lay i ci fs) (hc : vwCl[ci]? = some (Cn, T, Nf)) (hin : ∀ w ∈ u_ws Cn T Nf, w ∈ lw_g) (hty : ∀ k, k < Nf → parseFieldDescriptor (T k).2.2.1 = some (ty0 k)) (hnm : ∀ a, a < Nf → ∀ b, b < Nf → a ≠ b → (T a).2.1 ≠ (T b).2.1) (f : Nat) (hf : f < Nf) (hw : Cond.fieldLink own ix (T f).1 (T f).2.1 (T f).2.2.1 ∈ lw_g) (hfin : (T f).2.2.2 = false) {ty : FieldType} (hd0 : parseFieldDescriptor (T f).2.2.1 = some ty) (hn : narrow ty (vI a) = vI a) (hfit : fits ty (vI a) = true) (hl : ∀ d, f < (fs d).length) (hset : ∀ (σ : Blk) (a : Int), fs (up2 σ i f a i) = (fs (σ i)).set f (vI a)) (hd : decode cc pc = .ok (.putfield ix, 3)) (h : ∀ σ', Rg σ' → Sim p l e R s m args below meth c nL A Q k n (J σ') (pc + 3) L st (K σ')) : Sim p l e R s m args below meth c nL A Q k n (J σ) pc L (vI a :: .ref (b + i) :: st) (pf σ i f a K) := s_put C hK hJ hA hi ho hc hin hty hnm f hf hw hfin hd0 hn hfit (hl _) (hset _ _) hd (h _ (Rg_up hσ ha))
def gd {α : Type} (j : Int) (n : Nat) (K : Option α) : Option α := if 0 ≤ j ∧ j < (n : Int) then K else none
theorem s_aaloadG (C : Cx p s m args meth c cc nL own) {G : Gt} (hK : KK G s) {lay : Lay} {N b i nA w : Nat} {σ : Blk} {j : Int} {K : Option α} (hI : ∀ H, I H → Bk G lay N b σ H) (hi : i < N) (ha : isQ G lay b i nA w) (hd : decode cc pc = .ok (.aaload, 1)) (h : 0 ≤ j → j < nA → Sim p l e R s m args below meth c nL A Q k n I (pc + 1) L (.ref (b + (w + j.toNat)) :: st) K) : Sim p l e R s m args below meth c nL A Q k n I pc L (vI j :: .ref (b + i) :: st) (gd j nA K) := s_aaload C hK hI hi ha hd h
theorem u_Book_0 {b : Nat} (σ : Blk) (a : Int) : fsBook b (up2 σ 0 0 a 0) = (fsBook b (σ 0)).set 0 (vI a) := rfl
theorem u_Book_1 {b : Nat} (σ : Blk) (a : Int) : fsBook b (up2 σ 0 1 a 0) = (fsBook b (σ 0)).set 1 (vI a) := rfl
theorem u_Book_2 {b : Nat} (σ : Blk) (a : Int) : fsBook b (up2 σ 0 2 a 0) = (fsBook b (σ 0)).set 2 (vI a) := rfl
theorem u_Pad_1 {b : Nat} (σ : Blk) (a : Int) : fsPad b (up2 σ 0 1 a 0) = (fsPad b (σ 0)).set 1 (vI a) := rfl
theorem u_Pad_2 {b : Nat} (σ : Blk) (a : Int) : fsPad b (up2 σ 0 2 a 0) = (fsPad b (σ 0)).set 2 (vI a) := rfl
theorem u_Pad_6 {b : Nat} (σ : Blk) (a : Int) : fsPad b (up2 σ 0 6 a 0) = (fsPad b (σ 0)).set 6 (vI a) := rfl
theorem u_Pad_7 {b : Nat} (σ : Blk) (a : Int) : fsPad b (up2 σ 0 7 a 0) = (fsPad b (σ 0)).set 7 (vI a) := rfl
theorem u_Pad_8 {b : Nat} (σ : Blk) (a : Int) : fsPad b (up2 σ 0 8 a 0) = (fsPad b (σ 0)).set 8 (vI a) := rfl
theorem u_Model_4 {b : Nat} (σ : Blk) (a : Int) : fsModel b (up2 σ 0 4 a 0) = (fsModel b (σ 0)).set 4 (vI a) := rfl
theorem u_Model_8 {b : Nat} (σ : Blk) (a : Int) : fsModel b (up2 σ 0 8 a 0) = (fsModel b (σ 0)).set 8 (vI a) := rfl
theorem u_Model_10 {b : Nat} (σ : Blk) (a : Int) : fsModel b (up2 σ 0 10 a 0) = (fsModel b (σ 0)).set 10 (vI a) := rfl
theorem u_Model_12 {b : Nat} (σ : Blk) (a : Int) : fsModel b (up2 σ 0 12 a 0) = (fsModel b (σ 0)).set 12 (vI a) := rfl

theorem s_jp_ {K : Option α} {f : (Option α) → Option α} (pcB : Nat) (LB : List (Nat × Value)) (SB : List Value) (h1 : Sim p l e R s m args below meth c nL A Q k n I pcB LB SB K) (h2 : ∀ j : Option α, (Sim p l e R s m args below meth c nL A Q k n I pcB LB SB j) → Sim p l e R s m args below meth c nL A Q k n I pc L st (f j)) : Sim p l e R s m args below meth c nL A Q k n I pc L st (jp K f) := h2 K h1
theorem s_jp_B {K : Blk → Option α} {f : (Blk → Option α) → Option α} {J : Blk → Heap → Prop} (pcB : Nat) (LB : List (Nat × Value)) (SB : List Value) (h1 : ∀ (τ : Blk), Rg τ → Sim p l e R s m args below meth c nL A Q k n (J τ) pcB LB SB (K τ)) (h2 : ∀ j : Blk → Option α, (∀ (τ : Blk), Rg τ → Sim p l e R s m args below meth c nL A Q k n (J τ) pcB LB SB (j τ)) → Sim p l e R s m args below meth c nL A Q k n I pc L st (f j)) : Sim p l e R s m args below meth c nL A Q k n I pc L st (jp K f) := h2 K h1
theorem s_jp_I {K : Int → Option α} {f : (Int → Option α) → Option α} (pcB : Nat) (LB : Int → List (Nat × Value)) (SB : Int → List Value) (h1 : ∀ (y0 : Int), inR y0 → Sim p l e R s m args below meth c nL A Q k n I pcB (LB y0) (SB y0) (K y0)) (h2 : ∀ j : Int → Option α, (∀ (y0 : Int), inR y0 → Sim p l e R s m args below meth c nL A Q k n I pcB (LB y0) (SB y0) (j y0)) → Sim p l e R s m args below meth c nL A Q k n I pc L st (f j)) : Sim p l e R s m args below meth c nL A Q k n I pc L st (jp K f) := h2 K h1
theorem s_jp_IB {K : Int → Blk → Option α} {f : (Int → Blk → Option α) → Option α} {J : Blk → Heap → Prop} (pcB : Nat) (LB : Int → List (Nat × Value)) (SB : Int → List Value) (h1 : ∀ (y0 : Int) (τ : Blk), inR y0 → Rg τ → Sim p l e R s m args below meth c nL A Q k n (J τ) pcB (LB y0) (SB y0) (K y0 τ)) (h2 : ∀ j : Int → Blk → Option α, (∀ (y0 : Int) (τ : Blk), inR y0 → Rg τ → Sim p l e R s m args below meth c nL A Q k n (J τ) pcB (LB y0) (SB y0) (j y0 τ)) → Sim p l e R s m args below meth c nL A Q k n I pc L st (f j)) : Sim p l e R s m args below meth c nL A Q k n I pc L st (jp K f) := h2 K h1
theorem s_jp_II {K : Int → Int → Option α} {f : (Int → Int → Option α) → Option α} (pcB : Nat) (LB : Int → Int → List (Nat × Value)) (SB : Int → Int → List Value) (h1 : ∀ (y0 : Int) (y1 : Int), inR y0 → inR y1 → Sim p l e R s m args below meth c nL A Q k n I pcB (LB y0 y1) (SB y0 y1) (K y0 y1)) (h2 : ∀ j : Int → Int → Option α, (∀ (y0 : Int) (y1 : Int), inR y0 → inR y1 → Sim p l e R s m args below meth c nL A Q k n I pcB (LB y0 y1) (SB y0 y1) (j y0 y1)) → Sim p l e R s m args below meth c nL A Q k n I pc L st (f j)) : Sim p l e R s m args below meth c nL A Q k n I pc L st (jp K f) := h2 K h1
theorem s_jp_IJI {K : Int → Int64 → Int → Option α} {f : (Int → Int64 → Int → Option α) → Option α} (pcB : Nat) (LB : Int → Int64 → Int → List (Nat × Value)) (SB : Int → Int64 → Int → List Value) (h1 : ∀ (y0 : Int) (y1 : Int64) (y2 : Int), inR y0 → inR y2 → Sim p l e R s m args below meth c nL A Q k n I pcB (LB y0 y1 y2) (SB y0 y1 y2) (K y0 y1 y2)) (h2 : ∀ j : Int → Int64 → Int → Option α, (∀ (y0 : Int) (y1 : Int64) (y2 : Int), inR y0 → inR y2 → Sim p l e R s m args below meth c nL A Q k n I pcB (LB y0 y1 y2) (SB y0 y1 y2) (j y0 y1 y2)) → Sim p l e R s m args below meth c nL A Q k n I pc L st (f j)) : Sim p l e R s m args below meth c nL A Q k n I pc L st (jp K f) := h2 K h1
theorem s_lp_I {F : Nat → Int → Option α} (pcB : Nat) (LB : Int → List (Nat × Value)) (h0 : ∀ (y0 : Int), (F 0 y0) = none) (hs : ∀ N : Nat, (∀ (y0 : Int), inR y0 → Sim p l e R s m args below meth c nL A Q k n I pcB (LB y0) [] (F N y0)) → ∀ (y0 : Int), inR y0 → Sim p l e R s m args below meth c nL A Q k n I pcB (LB y0) [] (F (N + 1) y0)) (N : Nat) : ∀ (y0 : Int), inR y0 → Sim p l e R s m args below meth c nL A Q k n I pcB (LB y0) [] (F N y0) := by
  induction N with
  | zero =>
    intros
    rw [h0]
    exact s_none
  | succ N ih => exact hs N ih
theorem s_lp_IB {F : Nat → Int → Blk → Option α} {J : Blk → Heap → Prop} (pcB : Nat) (LB : Int → List (Nat × Value)) (h0 : ∀ (y0 : Int) (τ : Blk), (F 0 y0 τ) = none) (hs : ∀ N : Nat, (∀ (y0 : Int) (τ : Blk), inR y0 → Rg τ → Sim p l e R s m args below meth c nL A Q k n (J τ) pcB (LB y0) [] (F N y0 τ)) → ∀ (y0 : Int) (τ : Blk), inR y0 → Rg τ → Sim p l e R s m args below meth c nL A Q k n (J τ) pcB (LB y0) [] (F (N + 1) y0 τ)) (N : Nat) : ∀ (y0 : Int) (τ : Blk), inR y0 → Rg τ → Sim p l e R s m args below meth c nL A Q k n (J τ) pcB (LB y0) [] (F N y0 τ) := by
  induction N with
  | zero =>
    intros
    rw [h0]
    exact s_none
  | succ N ih => exact hs N ih
theorem s_lp_II {F : Nat → Int → Int → Option α} (pcB : Nat) (LB : Int → Int → List (Nat × Value)) (h0 : ∀ (y0 : Int) (y1 : Int), (F 0 y0 y1) = none) (hs : ∀ N : Nat, (∀ (y0 : Int) (y1 : Int), inR y0 → inR y1 → Sim p l e R s m args below meth c nL A Q k n I pcB (LB y0 y1) [] (F N y0 y1)) → ∀ (y0 : Int) (y1 : Int), inR y0 → inR y1 → Sim p l e R s m args below meth c nL A Q k n I pcB (LB y0 y1) [] (F (N + 1) y0 y1)) (N : Nat) : ∀ (y0 : Int) (y1 : Int), inR y0 → inR y1 → Sim p l e R s m args below meth c nL A Q k n I pcB (LB y0 y1) [] (F N y0 y1) := by
  induction N with
  | zero =>
    intros
    rw [h0]
    exact s_none
  | succ N ih => exact hs N ih
theorem s_lp_IIB {F : Nat → Int → Int → Blk → Option α} {J : Blk → Heap → Prop} (pcB : Nat) (LB : Int → Int → List (Nat × Value)) (h0 : ∀ (y0 : Int) (y1 : Int) (τ : Blk), (F 0 y0 y1 τ) = none) (hs : ∀ N : Nat, (∀ (y0 : Int) (y1 : Int) (τ : Blk), inR y0 → inR y1 → Rg τ → Sim p l e R s m args below meth c nL A Q k n (J τ) pcB (LB y0 y1) [] (F N y0 y1 τ)) → ∀ (y0 : Int) (y1 : Int) (τ : Blk), inR y0 → inR y1 → Rg τ → Sim p l e R s m args below meth c nL A Q k n (J τ) pcB (LB y0 y1) [] (F (N + 1) y0 y1 τ)) (N : Nat) : ∀ (y0 : Int) (y1 : Int) (τ : Blk), inR y0 → inR y1 → Rg τ → Sim p l e R s m args below meth c nL A Q k n (J τ) pcB (LB y0 y1) [] (F N y0 y1 τ) := by
  induction N with
  | zero =>
    intros
    rw [h0]
    exact s_none
  | succ N ih => exact hs N ih
theorem s_lp_III {F : Nat → Int → Int → Int → Option α} (pcB : Nat) (LB : Int → Int → Int → List (Nat × Value)) (h0 : ∀ (y0 : Int) (y1 : Int) (y2 : Int), (F 0 y0 y1 y2) = none) (hs : ∀ N : Nat, (∀ (y0 : Int) (y1 : Int) (y2 : Int), inR y0 → inR y1 → inR y2 → Sim p l e R s m args below meth c nL A Q k n I pcB (LB y0 y1 y2) [] (F N y0 y1 y2)) → ∀ (y0 : Int) (y1 : Int) (y2 : Int), inR y0 → inR y1 → inR y2 → Sim p l e R s m args below meth c nL A Q k n I pcB (LB y0 y1 y2) [] (F (N + 1) y0 y1 y2)) (N : Nat) : ∀ (y0 : Int) (y1 : Int) (y2 : Int), inR y0 → inR y1 → inR y2 → Sim p l e R s m args below meth c nL A Q k n I pcB (LB y0 y1 y2) [] (F N y0 y1 y2) := by
  induction N with
  | zero =>
    intros
    rw [h0]
    exact s_none
  | succ N ih => exact hs N ih
theorem s_lp_IIIB {F : Nat → Int → Int → Int → Blk → Option α} {J : Blk → Heap → Prop} (pcB : Nat) (LB : Int → Int → Int → List (Nat × Value)) (h0 : ∀ (y0 : Int) (y1 : Int) (y2 : Int) (τ : Blk), (F 0 y0 y1 y2 τ) = none) (hs : ∀ N : Nat, (∀ (y0 : Int) (y1 : Int) (y2 : Int) (τ : Blk), inR y0 → inR y1 → inR y2 → Rg τ → Sim p l e R s m args below meth c nL A Q k n (J τ) pcB (LB y0 y1 y2) [] (F N y0 y1 y2 τ)) → ∀ (y0 : Int) (y1 : Int) (y2 : Int) (τ : Blk), inR y0 → inR y1 → inR y2 → Rg τ → Sim p l e R s m args below meth c nL A Q k n (J τ) pcB (LB y0 y1 y2) [] (F (N + 1) y0 y1 y2 τ)) (N : Nat) : ∀ (y0 : Int) (y1 : Int) (y2 : Int) (τ : Blk), inR y0 → inR y1 → inR y2 → Rg τ → Sim p l e R s m args below meth c nL A Q k n (J τ) pcB (LB y0 y1 y2) [] (F N y0 y1 y2 τ) := by
  induction N with
  | zero =>
    intros
    rw [h0]
    exact s_none
  | succ N ih => exact hs N ih
theorem s_lp_IJI {F : Nat → Int → Int64 → Int → Option α} (pcB : Nat) (LB : Int → Int64 → Int → List (Nat × Value)) (h0 : ∀ (y0 : Int) (y1 : Int64) (y2 : Int), (F 0 y0 y1 y2) = none) (hs : ∀ N : Nat, (∀ (y0 : Int) (y1 : Int64) (y2 : Int), inR y0 → inR y2 → Sim p l e R s m args below meth c nL A Q k n I pcB (LB y0 y1 y2) [] (F N y0 y1 y2)) → ∀ (y0 : Int) (y1 : Int64) (y2 : Int), inR y0 → inR y2 → Sim p l e R s m args below meth c nL A Q k n I pcB (LB y0 y1 y2) [] (F (N + 1) y0 y1 y2)) (N : Nat) : ∀ (y0 : Int) (y1 : Int64) (y2 : Int), inR y0 → inR y2 → Sim p l e R s m args below meth c nL A Q k n I pcB (LB y0 y1 y2) [] (F N y0 y1 y2) := by
  induction N with
  | zero =>
    intros
    rw [h0]
    exact s_none
  | succ N ih => exact hs N ih
end SHAPES
theorem dd_yX0_copyFrom : yX0_copyFrom.cls ≠ "java/lang/invoke/MethodHandle" ∧ yX0_copyFrom.cls ≠ "java/lang/invoke/VarHandle" ∧ (parseMethodDescriptor yX0_copyFrom.desc).map (fun d => d.parameters.length) = some 1 := by decide +kernel
theorem dd_yX0_rowOf : yX0_rowOf.cls ≠ "java/lang/invoke/MethodHandle" ∧ yX0_rowOf.cls ≠ "java/lang/invoke/VarHandle" ∧ (parseMethodDescriptor yX0_rowOf.desc).map (fun d => d.parameters.length) = some 1 := by decide +kernel
theorem dd_yX0_layRow : yX0_layRow.cls ≠ "java/lang/invoke/MethodHandle" ∧ yX0_layRow.cls ≠ "java/lang/invoke/VarHandle" ∧ (parseMethodDescriptor yX0_layRow.desc).map (fun d => d.parameters.length) = some 2 := by decide +kernel
theorem dd_yX0_addRow : yX0_addRow.cls ≠ "java/lang/invoke/MethodHandle" ∧ yX0_addRow.cls ≠ "java/lang/invoke/VarHandle" ∧ (parseMethodDescriptor yX0_addRow.desc).map (fun d => d.parameters.length) = some 1 := by decide +kernel
theorem dd_yX0_layNew : yX0_layNew.cls ≠ "java/lang/invoke/MethodHandle" ∧ yX0_layNew.cls ≠ "java/lang/invoke/VarHandle" ∧ (parseMethodDescriptor yX0_layNew.desc).map (fun d => d.parameters.length) = some 1 := by decide +kernel
theorem dd_yX0_layAgain : yX0_layAgain.cls ≠ "java/lang/invoke/MethodHandle" ∧ yX0_layAgain.cls ≠ "java/lang/invoke/VarHandle" ∧ (parseMethodDescriptor yX0_layAgain.desc).map (fun d => d.parameters.length) = some 1 := by decide +kernel
theorem dd_yX0_layHeadAgain : yX0_layHeadAgain.cls ≠ "java/lang/invoke/MethodHandle" ∧ yX0_layHeadAgain.cls ≠ "java/lang/invoke/VarHandle" ∧ (parseMethodDescriptor yX0_layHeadAgain.desc).map (fun d => d.parameters.length) = some 1 := by decide +kernel
theorem dd_yX0_layPieces : yX0_layPieces.cls ≠ "java/lang/invoke/MethodHandle" ∧ yX0_layPieces.cls ≠ "java/lang/invoke/VarHandle" ∧ (parseMethodDescriptor yX0_layPieces.desc).map (fun d => d.parameters.length) = some 1 := by decide +kernel
theorem dd_yX0_liftPieces : yX0_liftPieces.cls ≠ "java/lang/invoke/MethodHandle" ∧ yX0_liftPieces.cls ≠ "java/lang/invoke/VarHandle" ∧ (parseMethodDescriptor yX0_liftPieces.desc).map (fun d => d.parameters.length) = some 1 := by decide +kernel
theorem dd_yX0_headLetters : yX0_headLetters.cls ≠ "java/lang/invoke/MethodHandle" ∧ yX0_headLetters.cls ≠ "java/lang/invoke/VarHandle" ∧ (parseMethodDescriptor yX0_headLetters.desc).map (fun d => d.parameters.length) = some 1 := by decide +kernel
theorem dd_yX0_headCells : yX0_headCells.cls ≠ "java/lang/invoke/MethodHandle" ∧ yX0_headCells.cls ≠ "java/lang/invoke/VarHandle" ∧ (parseMethodDescriptor yX0_headCells.desc).map (fun d => d.parameters.length) = some 1 := by decide +kernel
theorem dd_yX0_removeRow : yX0_removeRow.cls ≠ "java/lang/invoke/MethodHandle" ∧ yX0_removeRow.cls ≠ "java/lang/invoke/VarHandle" ∧ (parseMethodDescriptor yX0_removeRow.desc).map (fun d => d.parameters.length) = some 1 := by decide +kernel
theorem dd_yX0_packAll : yX0_packAll.cls ≠ "java/lang/invoke/MethodHandle" ∧ yX0_packAll.cls ≠ "java/lang/invoke/VarHandle" ∧ (parseMethodDescriptor yX0_packAll.desc).map (fun d => d.parameters.length) = some 0 := by decide +kernel
theorem dd_yX0_hasMoved : yX0_hasMoved.cls ≠ "java/lang/invoke/MethodHandle" ∧ yX0_hasMoved.cls ≠ "java/lang/invoke/VarHandle" ∧ (parseMethodDescriptor yX0_hasMoved.desc).map (fun d => d.parameters.length) = some 1 := by decide +kernel
theorem dd_yX0_costOf : yX0_costOf.cls ≠ "java/lang/invoke/MethodHandle" ∧ yX0_costOf.cls ≠ "java/lang/invoke/VarHandle" ∧ (parseMethodDescriptor yX0_costOf.desc).map (fun d => d.parameters.length) = some 1 := by decide +kernel
theorem dd_yX0_cellsOf : yX0_cellsOf.cls ≠ "java/lang/invoke/MethodHandle" ∧ yX0_cellsOf.cls ≠ "java/lang/invoke/VarHandle" ∧ (parseMethodDescriptor yX0_cellsOf.desc).map (fun d => d.parameters.length) = some 1 := by decide +kernel
theorem dd_yX0_costInAll : yX0_costInAll.cls ≠ "java/lang/invoke/MethodHandle" ∧ yX0_costInAll.cls ≠ "java/lang/invoke/VarHandle" ∧ (parseMethodDescriptor yX0_costInAll.desc).map (fun d => d.parameters.length) = some 0 := by decide +kernel
theorem dd_yX0_greatestCost : yX0_greatestCost.cls ≠ "java/lang/invoke/MethodHandle" ∧ yX0_greatestCost.cls ≠ "java/lang/invoke/VarHandle" ∧ (parseMethodDescriptor yX0_greatestCost.desc).map (fun d => d.parameters.length) = some 0 := by decide +kernel
theorem dd_yX0_lettersInAll : yX0_lettersInAll.cls ≠ "java/lang/invoke/MethodHandle" ∧ yX0_lettersInAll.cls ≠ "java/lang/invoke/VarHandle" ∧ (parseMethodDescriptor yX0_lettersInAll.desc).map (fun d => d.parameters.length) = some 0 := by decide +kernel
theorem dd_yX2_read : yX2_read.cls ≠ "java/lang/invoke/MethodHandle" ∧ yX2_read.cls ≠ "java/lang/invoke/VarHandle" ∧ (parseMethodDescriptor yX2_read.desc).map (fun d => d.parameters.length) = some 0 := by decide +kernel
theorem dd_yX2_awaitKey : yX2_awaitKey.cls ≠ "java/lang/invoke/MethodHandle" ∧ yX2_awaitKey.cls ≠ "java/lang/invoke/VarHandle" ∧ (parseMethodDescriptor yX2_awaitKey.desc).map (fun d => d.parameters.length) = some 0 := by decide +kernel
theorem dd_yX2_readInKey : yX2_readInKey.cls ≠ "java/lang/invoke/MethodHandle" ∧ yX2_readInKey.cls ≠ "java/lang/invoke/VarHandle" ∧ (parseMethodDescriptor yX2_readInKey.desc).map (fun d => d.parameters.length) = some 2 := by decide +kernel
theorem dd_yX2_startText : yX2_startText.cls ≠ "java/lang/invoke/MethodHandle" ∧ yX2_startText.cls ≠ "java/lang/invoke/VarHandle" ∧ (parseMethodDescriptor yX2_startText.desc).map (fun d => d.parameters.length) = some 1 := by decide +kernel
theorem dd_yX2_readInText : yX2_readInText.cls ≠ "java/lang/invoke/MethodHandle" ∧ yX2_readInText.cls ≠ "java/lang/invoke/VarHandle" ∧ (parseMethodDescriptor yX2_readInText.desc).map (fun d => d.parameters.length) = some 1 := by decide +kernel
theorem dd_yX3_copyFrom : yX3_copyFrom.cls ≠ "java/lang/invoke/MethodHandle" ∧ yX3_copyFrom.cls ≠ "java/lang/invoke/VarHandle" ∧ (parseMethodDescriptor yX3_copyFrom.desc).map (fun d => d.parameters.length) = some 1 := by decide +kernel
theorem dd_yX3_clear : yX3_clear.cls ≠ "java/lang/invoke/MethodHandle" ∧ yX3_clear.cls ≠ "java/lang/invoke/VarHandle" ∧ (parseMethodDescriptor yX3_clear.desc).map (fun d => d.parameters.length) = some 0 := by decide +kernel
theorem dd_yX3_hasRoom : yX3_hasRoom.cls ≠ "java/lang/invoke/MethodHandle" ∧ yX3_hasRoom.cls ≠ "java/lang/invoke/VarHandle" ∧ (parseMethodDescriptor yX3_hasRoom.desc).map (fun d => d.parameters.length) = some 2 := by decide +kernel
theorem dd_yX3_occupy : yX3_occupy.cls ≠ "java/lang/invoke/MethodHandle" ∧ yX3_occupy.cls ≠ "java/lang/invoke/VarHandle" ∧ (parseMethodDescriptor yX3_occupy.desc).map (fun d => d.parameters.length) = some 4 := by decide +kernel
theorem dd_yX3_vacate : yX3_vacate.cls ≠ "java/lang/invoke/MethodHandle" ∧ yX3_vacate.cls ≠ "java/lang/invoke/VarHandle" ∧ (parseMethodDescriptor yX3_vacate.desc).map (fun d => d.parameters.length) = some 1 := by decide +kernel
theorem dd_yX3_place : yX3_place.cls ≠ "java/lang/invoke/MethodHandle" ∧ yX3_place.cls ≠ "java/lang/invoke/VarHandle" ∧ (parseMethodDescriptor yX3_place.desc).map (fun d => d.parameters.length) = some 3 := by decide +kernel
theorem dd_yX3_lowestGap : yX3_lowestGap.cls ≠ "java/lang/invoke/MethodHandle" ∧ yX3_lowestGap.cls ≠ "java/lang/invoke/VarHandle" ∧ (parseMethodDescriptor yX3_lowestGap.desc).map (fun d => d.parameters.length) = some 1 := by decide +kernel
theorem dd_yX3_slotsOf : yX3_slotsOf.cls ≠ "java/lang/invoke/MethodHandle" ∧ yX3_slotsOf.cls ≠ "java/lang/invoke/VarHandle" ∧ (parseMethodDescriptor yX3_slotsOf.desc).map (fun d => d.parameters.length) = some 1 := by decide +kernel
theorem dd_yX3_thingsOn : yX3_thingsOn.cls ≠ "java/lang/invoke/MethodHandle" ∧ yX3_thingsOn.cls ≠ "java/lang/invoke/VarHandle" ∧ (parseMethodDescriptor yX3_thingsOn.desc).map (fun d => d.parameters.length) = some 2 := by decide +kernel
theorem dd_yX3_thingsInAll : yX3_thingsInAll.cls ≠ "java/lang/invoke/MethodHandle" ∧ yX3_thingsInAll.cls ≠ "java/lang/invoke/VarHandle" ∧ (parseMethodDescriptor yX3_thingsInAll.desc).map (fun d => d.parameters.length) = some 1 := by decide +kernel
theorem dd_yX3_pagesInUse : yX3_pagesInUse.cls ≠ "java/lang/invoke/MethodHandle" ∧ yX3_pagesInUse.cls ≠ "java/lang/invoke/VarHandle" ∧ (parseMethodDescriptor yX3_pagesInUse.desc).map (fun d => d.parameters.length) = some 0 := by decide +kernel
theorem dd_yX3_freeInAll : yX3_freeInAll.cls ≠ "java/lang/invoke/MethodHandle" ∧ yX3_freeInAll.cls ≠ "java/lang/invoke/VarHandle" ∧ (parseMethodDescriptor yX3_freeInAll.desc).map (fun d => d.parameters.length) = some 0 := by decide +kernel
theorem dd_yX5_moves : yX5_moves.cls ≠ "java/lang/invoke/MethodHandle" ∧ yX5_moves.cls ≠ "java/lang/invoke/VarHandle" ∧ (parseMethodDescriptor yX5_moves.desc).map (fun d => d.parameters.length) = some 4 := by decide +kernel
theorem dd_yX5_within : yX5_within.cls ≠ "java/lang/invoke/MethodHandle" ∧ yX5_within.cls ≠ "java/lang/invoke/VarHandle" ∧ (parseMethodDescriptor yX5_within.desc).map (fun d => d.parameters.length) = some 3 := by decide +kernel
theorem dd_yX5_record : yX5_record.cls ≠ "java/lang/invoke/MethodHandle" ∧ yX5_record.cls ≠ "java/lang/invoke/VarHandle" ∧ (parseMethodDescriptor yX5_record.desc).map (fun d => d.parameters.length) = some 1 := by decide +kernel
theorem dd_yX5_kindOf : yX5_kindOf.cls ≠ "java/lang/invoke/MethodHandle" ∧ yX5_kindOf.cls ≠ "java/lang/invoke/VarHandle" ∧ (parseMethodDescriptor yX5_kindOf.desc).map (fun d => d.parameters.length) = some 1 := by decide +kernel
theorem dd_yX5_rowOf : yX5_rowOf.cls ≠ "java/lang/invoke/MethodHandle" ∧ yX5_rowOf.cls ≠ "java/lang/invoke/VarHandle" ∧ (parseMethodDescriptor yX5_rowOf.desc).map (fun d => d.parameters.length) = some 1 := by decide +kernel
theorem dd_yX5_numberOf : yX5_numberOf.cls ≠ "java/lang/invoke/MethodHandle" ∧ yX5_numberOf.cls ≠ "java/lang/invoke/VarHandle" ∧ (parseMethodDescriptor yX5_numberOf.desc).map (fun d => d.parameters.length) = some 1 := by decide +kernel
theorem dd_yX5_lettersOf : yX5_lettersOf.cls ≠ "java/lang/invoke/MethodHandle" ∧ yX5_lettersOf.cls ≠ "java/lang/invoke/VarHandle" ∧ (parseMethodDescriptor yX5_lettersOf.desc).map (fun d => d.parameters.length) = some 1 := by decide +kernel
theorem dd_yX5_thing : yX5_thing.cls ≠ "java/lang/invoke/MethodHandle" ∧ yX5_thing.cls ≠ "java/lang/invoke/VarHandle" ∧ (parseMethodDescriptor yX5_thing.desc).map (fun d => d.parameters.length) = some 4 := by decide +kernel
theorem dd_yX5_cellsOf : yX5_cellsOf.cls ≠ "java/lang/invoke/MethodHandle" ∧ yX5_cellsOf.cls ≠ "java/lang/invoke/VarHandle" ∧ (parseMethodDescriptor yX5_cellsOf.desc).map (fun d => d.parameters.length) = some 1 := by decide +kernel
theorem dd_yX5_freeOf : yX5_freeOf.cls ≠ "java/lang/invoke/MethodHandle" ∧ yX5_freeOf.cls ≠ "java/lang/invoke/VarHandle" ∧ (parseMethodDescriptor yX5_freeOf.desc).map (fun d => d.parameters.length) = some 1 := by decide +kernel
theorem dd_yX5_slotsOf : yX5_slotsOf.cls ≠ "java/lang/invoke/MethodHandle" ∧ yX5_slotsOf.cls ≠ "java/lang/invoke/VarHandle" ∧ (parseMethodDescriptor yX5_slotsOf.desc).map (fun d => d.parameters.length) = some 1 := by decide +kernel
theorem dd_yX5_thingsOn : yX5_thingsOn.cls ≠ "java/lang/invoke/MethodHandle" ∧ yX5_thingsOn.cls ≠ "java/lang/invoke/VarHandle" ∧ (parseMethodDescriptor yX5_thingsOn.desc).map (fun d => d.parameters.length) = some 2 := by decide +kernel
theorem dd_yX5_lowestEmpty : yX5_lowestEmpty.cls ≠ "java/lang/invoke/MethodHandle" ∧ yX5_lowestEmpty.cls ≠ "java/lang/invoke/VarHandle" ∧ (parseMethodDescriptor yX5_lowestEmpty.desc).map (fun d => d.parameters.length) = some 1 := by decide +kernel
theorem dd_yX5_placed : yX5_placed.cls ≠ "java/lang/invoke/MethodHandle" ∧ yX5_placed.cls ≠ "java/lang/invoke/VarHandle" ∧ (parseMethodDescriptor yX5_placed.desc).map (fun d => d.parameters.length) = some 1 := by decide +kernel
theorem dd_yX5_part : yX5_part.cls ≠ "java/lang/invoke/MethodHandle" ∧ yX5_part.cls ≠ "java/lang/invoke/VarHandle" ∧ (parseMethodDescriptor yX5_part.desc).map (fun d => d.parameters.length) = some 2 := by decide +kernel
theorem dd_yX5_setPart : yX5_setPart.cls ≠ "java/lang/invoke/MethodHandle" ∧ yX5_setPart.cls ≠ "java/lang/invoke/VarHandle" ∧ (parseMethodDescriptor yX5_setPart.desc).map (fun d => d.parameters.length) = some 3 := by decide +kernel
theorem dd_yX5_rowWith : yX5_rowWith.cls ≠ "java/lang/invoke/MethodHandle" ∧ yX5_rowWith.cls ≠ "java/lang/invoke/VarHandle" ∧ (parseMethodDescriptor yX5_rowWith.desc).map (fun d => d.parameters.length) = some 1 := by decide +kernel
theorem dd_yX5_letterAt : yX5_letterAt.cls ≠ "java/lang/invoke/MethodHandle" ∧ yX5_letterAt.cls ≠ "java/lang/invoke/VarHandle" ∧ (parseMethodDescriptor yX5_letterAt.desc).map (fun d => d.parameters.length) = some 2 := by decide +kernel
theorem dd_yX5_hasMoved : yX5_hasMoved.cls ≠ "java/lang/invoke/MethodHandle" ∧ yX5_hasMoved.cls ≠ "java/lang/invoke/VarHandle" ∧ (parseMethodDescriptor yX5_hasMoved.desc).map (fun d => d.parameters.length) = some 1 := by decide +kernel
theorem dd_yX5_findPieces : yX5_findPieces.cls ≠ "java/lang/invoke/MethodHandle" ∧ yX5_findPieces.cls ≠ "java/lang/invoke/VarHandle" ∧ (parseMethodDescriptor yX5_findPieces.desc).map (fun d => d.parameters.length) = some 1 := by decide +kernel
theorem dd_yX5_dropPieces : yX5_dropPieces.cls ≠ "java/lang/invoke/MethodHandle" ∧ yX5_dropPieces.cls ≠ "java/lang/invoke/VarHandle" ∧ (parseMethodDescriptor yX5_dropPieces.desc).map (fun d => d.parameters.length) = some 1 := by decide +kernel
theorem dd_yX5_headOf : yX5_headOf.cls ≠ "java/lang/invoke/MethodHandle" ∧ yX5_headOf.cls ≠ "java/lang/invoke/VarHandle" ∧ (parseMethodDescriptor yX5_headOf.desc).map (fun d => d.parameters.length) = some 1 := by decide +kernel
theorem dd_yX5_costOf : yX5_costOf.cls ≠ "java/lang/invoke/MethodHandle" ∧ yX5_costOf.cls ≠ "java/lang/invoke/VarHandle" ∧ (parseMethodDescriptor yX5_costOf.desc).map (fun d => d.parameters.length) = some 1 := by decide +kernel
theorem dd_yX5_cellsOfRow : yX5_cellsOfRow.cls ≠ "java/lang/invoke/MethodHandle" ∧ yX5_cellsOfRow.cls ≠ "java/lang/invoke/VarHandle" ∧ (parseMethodDescriptor yX5_cellsOfRow.desc).map (fun d => d.parameters.length) = some 1 := by decide +kernel
theorem dd_yX5_takeText : yX5_takeText.cls ≠ "java/lang/invoke/MethodHandle" ∧ yX5_takeText.cls ≠ "java/lang/invoke/VarHandle" ∧ (parseMethodDescriptor yX5_takeText.desc).map (fun d => d.parameters.length) = some 1 := by decide +kernel
theorem dd_yX5_headLetters : yX5_headLetters.cls ≠ "java/lang/invoke/MethodHandle" ∧ yX5_headLetters.cls ≠ "java/lang/invoke/VarHandle" ∧ (parseMethodDescriptor yX5_headLetters.desc).map (fun d => d.parameters.length) = some 0 := by decide +kernel
theorem dd_yX5_setText : yX5_setText.cls ≠ "java/lang/invoke/MethodHandle" ∧ yX5_setText.cls ≠ "java/lang/invoke/VarHandle" ∧ (parseMethodDescriptor yX5_setText.desc).map (fun d => d.parameters.length) = some 1 := by decide +kernel
theorem dd_yX5_putPieces : yX5_putPieces.cls ≠ "java/lang/invoke/MethodHandle" ∧ yX5_putPieces.cls ≠ "java/lang/invoke/VarHandle" ∧ (parseMethodDescriptor yX5_putPieces.desc).map (fun d => d.parameters.length) = some 1 := by decide +kernel
theorem dd_yX5_writeNew : yX5_writeNew.cls ≠ "java/lang/invoke/MethodHandle" ∧ yX5_writeNew.cls ≠ "java/lang/invoke/VarHandle" ∧ (parseMethodDescriptor yX5_writeNew.desc).map (fun d => d.parameters.length) = some 1 := by decide +kernel
theorem dd_yX5_placeForHead : yX5_placeForHead.cls ≠ "java/lang/invoke/MethodHandle" ∧ yX5_placeForHead.cls ≠ "java/lang/invoke/VarHandle" ∧ (parseMethodDescriptor yX5_placeForHead.desc).map (fun d => d.parameters.length) = some 2 := by decide +kernel
theorem dd_yX5_writeAgain : yX5_writeAgain.cls ≠ "java/lang/invoke/MethodHandle" ∧ yX5_writeAgain.cls ≠ "java/lang/invoke/VarHandle" ∧ (parseMethodDescriptor yX5_writeAgain.desc).map (fun d => d.parameters.length) = some 1 := by decide +kernel
theorem dd_yX5_freeRow : yX5_freeRow.cls ≠ "java/lang/invoke/MethodHandle" ∧ yX5_freeRow.cls ≠ "java/lang/invoke/VarHandle" ∧ (parseMethodDescriptor yX5_freeRow.desc).map (fun d => d.parameters.length) = some 0 := by decide +kernel
theorem dd_yX5_writes : yX5_writes.cls ≠ "java/lang/invoke/MethodHandle" ∧ yX5_writes.cls ≠ "java/lang/invoke/VarHandle" ∧ (parseMethodDescriptor yX5_writes.desc).map (fun d => d.parameters.length) = some 1 := by decide +kernel
theorem dd_yX5_isValue : yX5_isValue.cls ≠ "java/lang/invoke/MethodHandle" ∧ yX5_isValue.cls ≠ "java/lang/invoke/VarHandle" ∧ (parseMethodDescriptor yX5_isValue.desc).map (fun d => d.parameters.length) = some 2 := by decide +kernel
theorem dd_yX5_set : yX5_set.cls ≠ "java/lang/invoke/MethodHandle" ∧ yX5_set.cls ≠ "java/lang/invoke/VarHandle" ∧ (parseMethodDescriptor yX5_set.desc).map (fun d => d.parameters.length) = some 2 := by decide +kernel
theorem dd_yX5_write : yX5_write.cls ≠ "java/lang/invoke/MethodHandle" ∧ yX5_write.cls ≠ "java/lang/invoke/VarHandle" ∧ (parseMethodDescriptor yX5_write.desc).map (fun d => d.parameters.length) = some 0 := by decide +kernel
theorem dd_yX5_append : yX5_append.cls ≠ "java/lang/invoke/MethodHandle" ∧ yX5_append.cls ≠ "java/lang/invoke/VarHandle" ∧ (parseMethodDescriptor yX5_append.desc).map (fun d => d.parameters.length) = some 2 := by decide +kernel
theorem dd_yX5_delete : yX5_delete.cls ≠ "java/lang/invoke/MethodHandle" ∧ yX5_delete.cls ≠ "java/lang/invoke/VarHandle" ∧ (parseMethodDescriptor yX5_delete.desc).map (fun d => d.parameters.length) = some 1 := by decide +kernel
theorem dd_yX5_keyAt : yX5_keyAt.cls ≠ "java/lang/invoke/MethodHandle" ∧ yX5_keyAt.cls ≠ "java/lang/invoke/VarHandle" ∧ (parseMethodDescriptor yX5_keyAt.desc).map (fun d => d.parameters.length) = some 1 := by decide +kernel
theorem dd_yX5_packs : yX5_packs.cls ≠ "java/lang/invoke/MethodHandle" ∧ yX5_packs.cls ≠ "java/lang/invoke/VarHandle" ∧ (parseMethodDescriptor yX5_packs.desc).map (fun d => d.parameters.length) = some 0 := by decide +kernel
theorem dd_yX5_pagesWith : yX5_pagesWith.cls ≠ "java/lang/invoke/MethodHandle" ∧ yX5_pagesWith.cls ≠ "java/lang/invoke/VarHandle" ∧ (parseMethodDescriptor yX5_pagesWith.desc).map (fun d => d.parameters.length) = some 0 := by decide +kernel
theorem dd_yX5_pack : yX5_pack.cls ≠ "java/lang/invoke/MethodHandle" ∧ yX5_pack.cls ≠ "java/lang/invoke/VarHandle" ∧ (parseMethodDescriptor yX5_pack.desc).map (fun d => d.parameters.length) = some 0 := by decide +kernel
theorem dd_yX5_row : yX5_row.cls ≠ "java/lang/invoke/MethodHandle" ∧ yX5_row.cls ≠ "java/lang/invoke/VarHandle" ∧ (parseMethodDescriptor yX5_row.desc).map (fun d => d.parameters.length) = some 2 := by decide +kernel
theorem dd_yX5_letter : yX5_letter.cls ≠ "java/lang/invoke/MethodHandle" ∧ yX5_letter.cls ≠ "java/lang/invoke/VarHandle" ∧ (parseMethodDescriptor yX5_letter.desc).map (fun d => d.parameters.length) = some 2 := by decide +kernel
theorem dd_yX5_piece : yX5_piece.cls ≠ "java/lang/invoke/MethodHandle" ∧ yX5_piece.cls ≠ "java/lang/invoke/VarHandle" ∧ (parseMethodDescriptor yX5_piece.desc).map (fun d => d.parameters.length) = some 3 := by decide +kernel
theorem dd_yX5_page : yX5_page.cls ≠ "java/lang/invoke/MethodHandle" ∧ yX5_page.cls ≠ "java/lang/invoke/VarHandle" ∧ (parseMethodDescriptor yX5_page.desc).map (fun d => d.parameters.length) = some 2 := by decide +kernel
theorem dd_yX5_slot : yX5_slot.cls ≠ "java/lang/invoke/MethodHandle" ∧ yX5_slot.cls ≠ "java/lang/invoke/VarHandle" ∧ (parseMethodDescriptor yX5_slot.desc).map (fun d => d.parameters.length) = some 3 := by decide +kernel
theorem dd_yX5_thingsOf : yX5_thingsOf.cls ≠ "java/lang/invoke/MethodHandle" ∧ yX5_thingsOf.cls ≠ "java/lang/invoke/VarHandle" ∧ (parseMethodDescriptor yX5_thingsOf.desc).map (fun d => d.parameters.length) = some 1 := by decide +kernel
theorem dd_yX5_allFree : yX5_allFree.cls ≠ "java/lang/invoke/MethodHandle" ∧ yX5_allFree.cls ≠ "java/lang/invoke/VarHandle" ∧ (parseMethodDescriptor yX5_allFree.desc).map (fun d => d.parameters.length) = some 0 := by decide +kernel
theorem dd_yX5_sumOfCosts : yX5_sumOfCosts.cls ≠ "java/lang/invoke/MethodHandle" ∧ yX5_sumOfCosts.cls ≠ "java/lang/invoke/VarHandle" ∧ (parseMethodDescriptor yX5_sumOfCosts.desc).map (fun d => d.parameters.length) = some 0 := by decide +kernel
theorem dd_yX5_greatestCost : yX5_greatestCost.cls ≠ "java/lang/invoke/MethodHandle" ∧ yX5_greatestCost.cls ≠ "java/lang/invoke/VarHandle" ∧ (parseMethodDescriptor yX5_greatestCost.desc).map (fun d => d.parameters.length) = some 0 := by decide +kernel
theorem dd_yX5_allLetters : yX5_allLetters.cls ≠ "java/lang/invoke/MethodHandle" ∧ yX5_allLetters.cls ≠ "java/lang/invoke/VarHandle" ∧ (parseMethodDescriptor yX5_allLetters.desc).map (fun d => d.parameters.length) = some 0 := by decide +kernel
theorem dd_yX5_count : yX5_count.cls ≠ "java/lang/invoke/MethodHandle" ∧ yX5_count.cls ≠ "java/lang/invoke/VarHandle" ∧ (parseMethodDescriptor yX5_count.desc).map (fun d => d.parameters.length) = some 1 := by decide +kernel
theorem dd_yX5_key : yX5_key.cls ≠ "java/lang/invoke/MethodHandle" ∧ yX5_key.cls ≠ "java/lang/invoke/VarHandle" ∧ (parseMethodDescriptor yX5_key.desc).map (fun d => d.parameters.length) = some 1 := by decide +kernel
theorem dd_yX5_packedWith : yX5_packedWith.cls ≠ "java/lang/invoke/MethodHandle" ∧ yX5_packedWith.cls ≠ "java/lang/invoke/VarHandle" ∧ (parseMethodDescriptor yX5_packedWith.desc).map (fun d => d.parameters.length) = some 2 := by decide +kernel
theorem dd_yX5_ifPacked : yX5_ifPacked.cls ≠ "java/lang/invoke/MethodHandle" ∧ yX5_ifPacked.cls ≠ "java/lang/invoke/VarHandle" ∧ (parseMethodDescriptor yX5_ifPacked.desc).map (fun d => d.parameters.length) = some 2 := by decide +kernel
theorem dd_yX5_bestHead : yX5_bestHead.cls ≠ "java/lang/invoke/MethodHandle" ∧ yX5_bestHead.cls ≠ "java/lang/invoke/VarHandle" ∧ (parseMethodDescriptor yX5_bestHead.desc).map (fun d => d.parameters.length) = some 0 := by decide +kernel
theorem dd_yX5_most : yX5_most.cls ≠ "java/lang/invoke/MethodHandle" ∧ yX5_most.cls ≠ "java/lang/invoke/VarHandle" ∧ (parseMethodDescriptor yX5_most.desc).map (fun d => d.parameters.length) = some 1 := by decide +kernel
theorem dd_yX5_put : yX5_put.cls ≠ "java/lang/invoke/MethodHandle" ∧ yX5_put.cls ≠ "java/lang/invoke/VarHandle" ∧ (parseMethodDescriptor yX5_put.desc).map (fun d => d.parameters.length) = some 1 := by decide +kernel
theorem dd_yX5_wipe : yX5_wipe.cls ≠ "java/lang/invoke/MethodHandle" ∧ yX5_wipe.cls ≠ "java/lang/invoke/VarHandle" ∧ (parseMethodDescriptor yX5_wipe.desc).map (fun d => d.parameters.length) = some 0 := by decide +kernel
theorem dd_yX5_findFault : yX5_findFault.cls ≠ "java/lang/invoke/MethodHandle" ∧ yX5_findFault.cls ≠ "java/lang/invoke/VarHandle" ∧ (parseMethodDescriptor yX5_findFault.desc).map (fun d => d.parameters.length) = some 0 := by decide +kernel
theorem dd_yX5_fault : yX5_fault.cls ≠ "java/lang/invoke/MethodHandle" ∧ yX5_fault.cls ≠ "java/lang/invoke/VarHandle" ∧ (parseMethodDescriptor yX5_fault.desc).map (fun d => d.parameters.length) = some 0 := by decide +kernel
theorem dd_yX5_undo : yX5_undo.cls ≠ "java/lang/invoke/MethodHandle" ∧ yX5_undo.cls ≠ "java/lang/invoke/VarHandle" ∧ (parseMethodDescriptor yX5_undo.desc).map (fun d => d.parameters.length) = some 0 := by decide +kernel
theorem dd_yX5_save : yX5_save.cls ≠ "java/lang/invoke/MethodHandle" ∧ yX5_save.cls ≠ "java/lang/invoke/VarHandle" ∧ (parseMethodDescriptor yX5_save.desc).map (fun d => d.parameters.length) = some 1 := by decide +kernel
theorem dd_yX5_restore : yX5_restore.cls ≠ "java/lang/invoke/MethodHandle" ∧ yX5_restore.cls ≠ "java/lang/invoke/VarHandle" ∧ (parseMethodDescriptor yX5_restore.desc).map (fun d => d.parameters.length) = some 1 := by decide +kernel
theorem dd_yJ7_fill_53178 : yJ7_fill_53178.cls ≠ "java/lang/invoke/MethodHandle" ∧ yJ7_fill_53178.cls ≠ "java/lang/invoke/VarHandle" ∧ (parseMethodDescriptor yJ7_fill_53178.desc).map (fun d => d.parameters.length) = some 2 := by decide +kernel
end
section
/-! more rows: arraylength, System.arraycopy between two blocks -/
section MORE
variable {p : Program} {l : Launch} {e : Env} {R : Room} {s : State} {m : MethodId} {args : Array Value} {below : List Frame} {meth : Method} {c : Code}
variable {cc : ByteArray} {nL : Nat} {own : String}
variable {α β : Type} {A : Nat → Prop} {Q : α → State → Prop} {k n : Nat} {I : Heap → Prop} {pc : Nat} {L L' : List (Nat × Value)} {st : List Value} {kk : Option α}
theorem inA {G : Gt} {lay : Lay} {i nA : Nat} (h : isA G lay i nA) : inR (nA : Int) := ⟨by have := h.1; omega, by have := h.1; omega⟩
theorem s_alen (C : Cx p s m args meth c cc nL own) {G : Gt} (hK : KK G s) {lay : Lay} {N b i nA : Nat} {σ : Blk} (hI : ∀ H, I H → Bk G lay N b σ H) (hi : i < N) (ha : isA G lay i nA) (hd : decode cc pc = .ok (.arraylength, 1)) (h : Sim p l e R s m args below meth c nL A Q k n I (pc + 1) L (vI (nA : Int) :: st) kk) : Sim p l e R s m args below meth c nL A Q k n I pc L (.ref (b + i) :: st) kk := fun x hx H locs ls hH hS hL => by
  have h0 := hI H hH i hi
  rw [ha.2 (σ i)] at h0
  exact va_alen (D := G.1) (cl := vwCl) (ws := [(b + i, .inl (G.2.1, (nA, .inl (fun j => Int32.ofInt (σ i j)))))]) (ty := .int) C.1 C.2.1 hK (fun q z hz => by
    match q, hz with
    | 0, hz => cases hz; exact h0
    | q + 1, hz => simp at hz) 0 0 rfl rfl (Int32.ofInt_eq_ofNat (n := nA)).symm hd (h x hx H locs ls hH hS hL)
/-- the first n places of row c are row c2 of another block -/
def cpB (σ : Blk) (c : Nat) (τ : Blk) (c2 n : Nat) : Blk := fun i j => if i = c ∧ j < n then τ c2 j else σ i j
def pk {α : Type} (σ : Blk) (K : Blk → Option α) : Option α := K σ
theorem Rg_cpB {σ τ : Blk} {c c2 n : Nat} (h : Rg σ) (hτ : Rg τ) : Rg (cpB σ c τ c2 n) := by
  intro i j
  unfold cpB
  split
  · exact hτ _ _
  · exact h i j
theorem s_acopy (C : Cx p s m args meth c cc nL own) {G : Gt} (hK : KK G s) {lay lay2 : Lay} {N b i nA N2 b2 i2 : Nat} {σ τ : Blk} {z : Int} {ix : Nat} {J : Blk → Heap → Prop} {K : Blk → Option α} (hJ : Wd G lay N b J) (hA : ∀ q, Ab b N q → A q) (hσ : Rg σ) (hτ : Rg τ) (hO : ∀ H, J σ H → Bk G lay2 N2 b2 τ H) (hi : i < N) (ha : isA G lay i nA) (hi2 : i2 < N2) (ha2 : isA G lay2 i2 nA) (hz : z = (nA : Int)) (hl : Cond.methodLink own ix arraycopyName ∈ lw_g) (hfr : 1 ≤ R.frames) (hlo : (st.map fun v => v.category).sum + (nativeFrameWords "java/lang/System" "arraycopy" 5 + 11) ≤ R.locals) (hdg : decode cc pc = .ok (.invokestatic ix, 3)) (h : ∀ σ', Rg σ' → Sim p l e R s m args below meth c nL A Q k n (J σ') (pc + 3) L st (K σ')) : Sim p l e R s m args below meth c nL A Q k n (J σ) pc L (vI z :: vI 0 :: .ref (b + i) :: vI 0 :: .ref (b2 + i2) :: st) (pk (cpB σ i τ i2 nA) K) := fun x hx H locs ls hH hS hL => by
  subst hz
  have hn1 := ha.1
  have en : (Int32.ofInt (nA : Int)).toNatClampNeg = nA := by rw [i32_nat (inA ha)]; simp
  have e0 : (Int32.ofInt 0).toNatClampNeg = 0 := by rw [i32_nat (inR_c 0 rfl)]; rfl
  have h10 : ¬ (Int32.ofInt 0 : Int32) < 0 := by decide
  have hn0 : ¬ Int32.ofInt (nA : Int) < 0 := fun q => by
    have := (i32_lt (inA ha) (inR_c 0 rfl)).mp q
    omega
  have hc0 : H[b2 + i2]? = some (vp_cell G.2.1 (nA, .inl (fun j => Int32.ofInt (τ i2 j)))) := by
    have h0 := hO H hH i2 hi2
    rw [ha2.2 (τ i2)] at h0
    exact h0
  have hc1 : H[b + i]? = some (vp_cell G.2.1 (nA, .inl (fun j => Int32.ofInt (σ i j)))) := by
    have h0 := hJ.1 σ H hH i hi
    rw [ha.2 (σ i)] at h0
    exact h0
  intro T hT X
  obtain ⟨-, k0, hk0, cm0, hkk0⟩ := (hK.2 0 _ rfl).1 nA (fun j => .int (Int32.ofInt (τ i2 j)))
  obtain ⟨-, k1, hk1, cm1, hkk1⟩ := (hK.2 0 _ rfl).1 nA (fun j => .int (Int32.ofInt (σ i j)))
  obtain ⟨vm', X', step⟩ := X.arraycopy C.1 C.2.2.2.1 (C.2.2.2.2.1 _ hl) (C.2.2.2.2.1 _ q_n_arraycopyName) (C.2.2.2.2.1 _ q_s_arraycopyName) (C.2.2.2.2.1 _ q_i_J10) (src := b2 + i2) (dst := b + i) (cs := vp_cell G.2.1 (nA, .inl (fun j => Int32.ofInt (τ i2 j)))) (cd := vp_cell G.2.1 (nA, .inl (fun j => Int32.ofInt (σ i j)))) (srcPos := Int32.ofInt 0) (destPos := Int32.ofInt 0) (n := Int32.ofInt (nA : Int)) (by rw [hT]; exact hc0) (by rw [hT]; exact hc1)
    (fun _ h => by cases h) (fun _ h => by cases h) (fun h => by cases h) (fun h => by cases h) hk0 hk1 hkk0 hkk1 (by simp [refKind]) h10 h10 hn0
    (by rw [i32_of (inA ha), i32_of (inR_c 0 rfl)]; show ¬ _ > ((arrV G.2.1 nA (fun j => .int (Int32.ofInt (τ i2 j)))).slots.size : Int); rw [arrV_size]; omega)
    (by rw [i32_of (inA ha), i32_of (inR_c 0 rfl)]; show ¬ _ > ((arrV G.2.1 nA (fun j => .int (Int32.ofInt (σ i j)))).slots.size : Int); rw [arrV_size]; omega)
    (fun vm₁ _ j hj => by
      rw [en] at hj
      rw [e0]
      have e : (vp_cell G.2.1 (nA, .inl (fun j => Int32.ofInt (τ i2 j)))).slots.getD (0 + j) .null = .int (Int32.ofInt (τ i2 (0 + j))) := by
        show (arrV G.2.1 nA (fun j => .int (Int32.ofInt (τ i2 j)))).slots.getD _ _ = _
        rw [Array.getD_eq_getD_getElem?, arrV_read _ _ (by omega)]
        rfl
      refine ⟨?_, ?_⟩
      · rw [e]
        rfl
      · rw [e]
        exact trivial)
    (g := F0 m pc ls (vI (nA : Int) :: vI 0 :: .ref (b + i) :: vI 0 :: .ref (b2 + i2) :: st)) rfl (by show ls.size = c.maxLocals; rw [C.2.2.1, hL.1]) (rest := st) rfl (by rw [C.2.1]; exact hdg) hfr (by show 2 * 0 + _ + _ ≤ _; omega)
  have e1 : copied (vp_cell G.2.1 (nA, .inl (fun j => Int32.ofInt (τ i2 j)))) (vp_cell G.2.1 (nA, .inl (fun j => Int32.ofInt (σ i j)))) (Int32.ofInt 0) (Int32.ofInt 0) (Int32.ofInt (nA : Int)) = vp_cell G.2.1 (nA, .inl (fun j => Int32.ofInt (cpB σ i τ i2 nA i j))) := by
    have e2 := va_copied (fun z => .int z) G.2.1 G.2.1 (n0 := nA) (n1 := nA) (sp := 0) (dp := 0) (n := nA) (fun j => Int32.ofInt (τ i2 j)) (fun j => Int32.ofInt (σ i j)) (by omega)
    have e3 : copied (vp_cell G.2.1 (nA, .inl (fun j => Int32.ofInt (τ i2 j)))) (vp_cell G.2.1 (nA, .inl (fun j => Int32.ofInt (σ i j)))) (Int32.ofInt 0) (Int32.ofInt 0) (Int32.ofInt (nA : Int)) = vp_cell G.2.1 (nA, .inl (va_cpy (fun j => Int32.ofInt (τ i2 j)) (fun j => Int32.ofInt (σ i j)) 0 0 nA)) := by
      unfold copied
      rw [en, e0]
      exact e2
    rw [e3]
    congr 2
    congr 1
    funext j
    unfold va_cpy cpB
    by_cases hj : j < nA
    · rw [if_pos (by omega), if_pos ⟨rfl, hj⟩]
      simp
    · rw [if_neg (by omega), if_neg (by omega)]
  rw [e1] at X' step
  have hl2 : b + i < H.size := (Array.getElem?_eq_some_iff.mp hc1).1
  generalize hcl : vp_cell G.2.1 (nA, .inl (fun j => Int32.ofInt (cpB σ i τ i2 nA i j))) = cell at X' step
  have hheap : ((T.setVm vm').setCell (b + i) cell).heap = H.setIfInBounds (b + i) cell := by rw [← hT]; rfl
  have oq : ∀ q : Nat, q ≠ b + i → (H.setIfInBounds (b + i) cell)[q]? = H[q]? := fun q hq => by simp [Array.getElem?_setIfInBounds, Ne.symm hq]
  have hJ' : J (cpB σ i τ i2 nA) (H.setIfInBounds (b + i) cell) := by
    refine hJ.2 σ _ H _ hH (fun j hj => ?_) (by simp) (fun q hq => oq q (by omega))
    by_cases ej : j = i
    · subst ej
      rw [ha.2]
      show (H.setIfInBounds (b + j) cell)[b + j]? = _
      rw [← hcl]
      simp [Array.getElem?_setIfInBounds, hl2]
    · have e4 : cpB σ i τ i2 nA j = σ j := by
        funext q
        simp [cpB, ej]
      rw [e4]
      exact (hJ.1 σ H hH j hj).kept (oq (b + j) (by omega))
  obtain ⟨t, a1, b1⟩ := h _ (Rg_cpB hσ hτ) x hx (H.setIfInBounds (b + i) cell) _ ls hJ' ⟨by simp; exact hS.1, fun q g1 g2 => by
      rw [oq q (fun e => g2 (by rw [e]; exact hA _ ⟨by omega, by omega⟩))]
      exact hS.2.1 q g1 g2, fun q hq => by
      rcases List.mem_append.mp hq with h | h
      · exact hS.2.2 q h
      · obtain ⟨z, -, hz⟩ := List.mem_map.mp h
        rw [← hz]
        show A (b + i)
        exact hA _ ⟨by omega, by omega⟩⟩ hL _ hheap X'
  exact ⟨t, step t a1, b1⟩
end MORE
end
section
/-! CONSTRUCTORS: cells that come one behind another from an address on; F is what else holds of the heap below it -/
def FrS (b : Nat) (F : Heap → Prop) : Prop := ∀ H H1 : Heap, F H → H.size ≤ H1.size → (∀ q : Nat, q < b → H1[q]? = H[q]?) → F H1
def Cl (G : Gt) (b : Nat) (es : List va_E) (F : Heap → Prop) (H : Heap) : Prop := H.size = b + es.length ∧ (∀ (i : Nat) (e : va_E), es[i]? = some e → va_at G.1 vwCl (b + i, e) H) ∧ F H
theorem Cl.push {G : Gt} {b : Nat} {es : List va_E} {F : Heap → Prop} {H H1 : Heap} {e : va_E} (hF : FrS b F) (h : Cl G b es F H) (hz : H1.size = H.size + 1) (ho : ∀ q : Nat, q < H.size → H1[q]? = H[q]?) (he : va_at G.1 vwCl (b + es.length, e) H1) : Cl G b (es ++ [e]) F H1 := by
  refine ⟨by rw [hz, h.1, List.length_append]; rfl, fun i e' hi => ?_, hF H H1 h.2.2 (by omega) (fun q hq => ho q (by have := h.1; omega))⟩
  by_cases hl : i < es.length
  · rw [List.getElem?_append_left hl] at hi
    exact (h.2.1 i e' hi).kept (ho _ (by have := h.1; show b + i < _; omega))
  · rw [List.getElem?_append_right (by omega)] at hi
    have hz : i - es.length < 1 := (List.getElem?_eq_some_iff.mp hi).1
    have e1 : i = es.length := by omega
    subst e1
    rw [Nat.sub_self] at hi
    cases hi
    exact he
theorem Cl.set {G : Gt} {b : Nat} {es : List va_E} {F : Heap → Prop} {H H1 : Heap} {e : va_E} {i : Nat} (hF : FrS b F) (h : Cl G b es F H) (hz : H1.size = H.size) (ho : ∀ q : Nat, q ≠ b + i → H1[q]? = H[q]?) (he : va_at G.1 vwCl (b + i, e) H1) : Cl G b (es.set i e) F H1 := by
  refine ⟨by rw [hz, h.1, List.length_set], fun j e' hj => ?_, hF H H1 h.2.2 (by omega) (fun q hq => ho q (by omega))⟩
  by_cases hji : j = i
  · subst hji
    have hl : j < es.length := by
      have := (List.getElem?_eq_some_iff.mp hj).1
      rw [List.length_set] at this
      exact this
    rw [List.getElem?_set_self hl] at hj
    cases hj
    exact he
  · rw [List.getElem?_set_ne (Ne.symm hji)] at hj
    exact (h.2.1 j e' hj).kept (ho _ (by show b + j ≠ b + i; omega))
theorem vr_outerC (c : ClassId) (N h0 : Nat) : ∀ i : Nat, Jvm.Free.Multi.outerC c N h0 i = arrV c N (fun j => va_rf (if j < i then some (h0 + 1 + j) else none))
  | 0 => by
    show ({ cls := c, slots := Array.replicate N .null, vm := .none } : Cell) = _
    rw [arrV_new]
    refine congrArg (arrV c N) (funext fun j => ?_)
    simp [va_rf]
  | i + 1 => by
    show (Jvm.Free.Multi.outerC c N h0 i).setSlot i (.ref (h0 + 1 + i)) = _
    rw [vr_outerC c N h0 i, arrV_store]
    refine congrArg (arrV c N) (funext fun j => ?_)
    by_cases e : j = i
    · subst e
      simp [updV, va_rf]
    · by_cases h : j < i
      · simp [updV, e, h, Nat.lt_succ_of_lt h]
      · simp [updV, e, h, show ¬ j < i + 1 by omega]
theorem innerC_0 (c : ClassId) (K : Nat) : Jvm.Free.Multi.innerC c K (defaultValue .int) = vp_cell c (K, .inl (fun _ => Int32.ofInt 0)) := by
  rw [vp_cell_i, ← arrV_new]
  rfl
section CTOR
variable {p : Program} {l : Launch} {e : Env} {R : Room} {s : State} {m : MethodId} {args : Array Value} {below : List Frame} {meth : Method} {c : Code}
variable {cc : ByteArray} {nL : Nat} {own : String}
variable {α β : Type} {A : Nat → Prop} {Q : α → State → Prop} {k n : Nat} {I : Heap → Prop} {pc : Nat} {L L' : List (Nat × Value)} {st : List Value} {kk : Option α}
theorem n_obj (C : Cx p s m args meth c cc nL own) {ix a : Nat} (hw : Cond.methodLink own ix objectInit ∈ lw_g) (hd : decode cc pc = .ok (.invokespecial ix, 3)) (hfr : 1 ≤ R.frames) (hlo : (st.map fun v => v.category).sum + 12 ≤ R.locals) (h : Sim p l e R s m args below meth c nL A Q k n I (pc + 3) L st kk) : Sim p l e R s m args below meth c nL A Q k n I pc L (.ref a :: st) kk := fun x hx H locs ls hI hS hL => by
  refine W.objInit C.1 C.2.1 C.2.2.2.1 (C.2.2.2.2.1 _ hw) (C.2.2.2.2.1 _ q_i_objectInit) (C.2.2.2.2.1 _ q_c_objectInit) rfl (by show ls.size = c.maxLocals; rw [C.2.2.1, hL.1]) rfl hd hfr (by show 2 * 0 + _ + 12 ≤ _; omega) ?_
  exact h x hx H locs ls hI hS hL
theorem n_new (C : Cx p s m args meth c cc nL own) {G : Gt} (hK : KK G s) {b i ci Nf ix : Nat} {es es' : List va_E} {F : Heap → Prop} {Cn : String} {T : u_T} {ty0 : Nat → FieldType} {fs : List Value} (hF : FrS b F) (hi : es.length = i) (hc : vwCl[ci]? = some (Cn, T, Nf)) (hin : ∀ w ∈ u_ws Cn T Nf, w ∈ lw_g) (hty : ∀ k, k < Nf → parseFieldDescriptor (T k).2.2.1 = some (ty0 k)) (hcl : Cond.classLink own ix Cn ∈ lw_g) (hins : Cond.instantiable Cn Nf ∈ lw_g) (hini : Cond.initialized Cn ∈ lw_g) (hfs : ∀ j, j < Nf → defaultValue (ty0 j) = vp_V fs j) (hes : es ++ [.inr (ci, fs)] = es') (hd : decode cc pc = .ok (.new ix, 3)) (hr : k + 1 ≤ R.cells ∧ n + Nf ≤ R.slots) (h : Sim p l e R s m args below meth c nL A Q (k + 1) (n + Nf) (Cl G b es' F) (pc + 3) L (.ref (b + i) :: st) kk) : Sim p l e R s m args below meth c nL A Q k n (Cl G b es F) pc L st kk := fun x hx H locs ls hI hS hL => by
  have hts := C.2.2.2.2.1
  have hKn := hK.1 ci _ hc
  refine W.newcK C.1 C.2.1 C.2.2.2.1 (hts _ hcl) (hts _ hins) (hts _ hini) rfl hd hr.1 hr.2 hKn.2.1 (h := b + i) (by rw [hI.1, hi]) fun H1 kC hkC e1 z1 o1 => ?_
  have hz0 : H.size = b + i := by rw [hI.1, hi]
  refine h x hx H1 locs ls ?_ ⟨Nat.le_trans hS.1 (by omega), fun x h1 h2 => (o1 x (by have := hS.1; omega)).trans (hS.2.1 x h1 h2), hS.2.2⟩ hL
  rw [← hes]
  refine hI.push hF (by omega) (fun q hq => o1 q (by omega)) ?_
  rw [hi]
  exact ⟨_, hc, (u_born ty0 hts hin hKn hkC e1 hty).to hfs⟩
theorem n_newa (C : Cx p s m args meth c cc nL own) {G : Gt} (hK : KK G s) {b i N' : Nat} {z : Int} {es es' : List va_E} {F : Heap → Prop} (hF : FrS b F) (hi : es.length = i) (hz : z = (N' : Int)) (hN : N' ≤ 5000) (hes : es ++ [ia G N' (fun _ => 0)] = es') (hd : decode cc pc = .ok (.newarray .int, 2)) (hr : k + 1 ≤ R.cells ∧ n + N' ≤ R.slots) (h : Sim p l e R s m args below meth c nL A Q (k + 1) (n + N') (Cl G b es' F) (pc + 2) L (.ref (b + i) :: st) kk) : Sim p l e R s m args below meth c nL A Q k n (Cl G b es F) pc L (vI z :: st) kk := fun x hx H locs ls hI hS hL => by
  subst hz
  have hir : inR (N' : Int) := ⟨by omega, by omega⟩
  have hz0 : H.size = b + i := by rw [hI.1, hi]
  refine va_newaK (atype := .int) C.1 C.2.1 (C.2.2.2.2.1 _ q_a_int) rfl hd (n := Int32.ofInt (N' : Int)) (N := N') rfl (fun q => ?_) (by rw [i32_nat hir]; simp) (by show N' * 4 ≤ _; omega) hr.1 hr.2 (h := b + i) hz0 fun H1 cA e1 z1 o1 hAr hNm => ?_
  · have := (i32_lt hir (inR_c 0 rfl)).mp q
    omega
  · have ec : cA = G.2.1 := Option.some.inj (hNm.symm.trans (hK.2 0 _ rfl).2)
    subst ec
    refine h x hx H1 locs ls ?_ ⟨Nat.le_trans hS.1 (by omega), fun x h1 h2 => (o1 x (by have := hS.1; omega)).trans (hS.2.1 x h1 h2), hS.2.2⟩ hL
    rw [← hes]
    refine hI.push hF (by omega) (fun q hq => o1 q (by omega)) ?_
    rw [hi]
    exact e1
theorem n_newq (C : Cx p s m args meth c cc nL own) {G : Gt} (hK : KA G s) {b i N' ix : Nat} {z : Int} {es es' : List va_E} {F : Heap → Prop} (hF : FrS b F) (hi : es.length = i) (hz : z = (N' : Int)) (hN : N' ≤ 5000) (hcl : Cond.classLink own ix RX0 ∈ lw_g) (hes : es ++ [.inl (G.2.2.2, (N', .inr (.inr (.inr (.inr (fun _ => none))))))] = es') (hd : decode cc pc = .ok (.anewarray ix, 3)) (hr : k + 1 ≤ R.cells ∧ n + N' ≤ R.slots) (h : Sim p l e R s m args below meth c nL A Q (k + 1) (n + N') (Cl G b es' F) (pc + 3) L (.ref (b + i) :: st) kk) : Sim p l e R s m args below meth c nL A Q k n (Cl G b es F) pc L (vI z :: st) kk := fun x hx H locs ls hI hS hL => by
  subst hz
  have hir : inR (N' : Int) := ⟨by omega, by omega⟩
  have hz0 : H.size = b + i := by rw [hI.1, hi]
  have en : (Int32.ofInt (N' : Int)).toNatClampNeg = N' := by rw [i32_nat hir]; simp
  refine W.anew C.1 C.2.1 C.2.2.2.1 (C.2.2.2.2.1 _ hcl) (va_AO.use hK.2.1) rfl hd rfl (n := Int32.ofInt (N' : Int)) (fun q => ?_) (by rw [en]; omega) hr.1 (by rw [en]; exact hr.2) fun cA kA comp f1 f2 f3 f4 => ?_
  · have := (i32_lt hir (inR_c 0 rfl)).mp q
    omega
  · obtain ⟨kA', comp', k1, k2, k3, k4⟩ := (hK.1.2 2 _ rfl).2
    have ec : cA = G.2.2.2 := Option.some.inj (f1.symm.trans k4)
    subst ec
    rw [en]
    generalize hH1 : H.push ({ cls := G.2.2.2, slots := Array.replicate N' .null, vm := .none } : Cell) = H1
    have z1 : H1.size = H.size + 1 := by rw [← hH1, Array.size_push]
    have e1 : H1[H.size]? = some (arrV G.2.2.2 N' (fun _ => .null)) := by rw [← hH1, Array.getElem?_push_size, ← arrV_new]
    have o1 : ∀ q : Nat, q < H.size → H1[q]? = H[q]? := fun q hq => by rw [← hH1, Array.getElem?_push, if_neg (Nat.ne_of_lt hq)]
    refine W.eq (g2 := F0 m (pc + 3) ls (.ref (b + i) :: st)) (by rw [hz0]) (h x hx H1 locs ls ?_ ⟨Nat.le_trans hS.1 (by omega), fun x h1 h2 => (o1 x (by have := hS.1; omega)).trans (hS.2.1 x h1 h2), hS.2.2⟩ hL)
    rw [← hes]
    refine hI.push hF (by omega) o1 ?_
    rw [hi]
    show H1[b + i]? = some (vp_cell _ _)
    rw [← hz0, e1]
    rfl
theorem n_put (C : Cx p s m args meth c cc nL own) {G : Gt} (hK : KK G s) {b i ci Nf ix : Nat} {es es' : List va_E} {F : Heap → Prop} {Cn : String} {T : u_T} {ty0 : Nat → FieldType} {fs : List Value} {v : Value} (hF : FrS b F) (hAb : ∀ q, b ≤ q → A q) (he : es[i]? = some (.inr (ci, fs))) (hc : vwCl[ci]? = some (Cn, T, Nf)) (hin : ∀ w ∈ u_ws Cn T Nf, w ∈ lw_g) (hty : ∀ k, k < Nf → parseFieldDescriptor (T k).2.2.1 = some (ty0 k)) (hnm : ∀ a, a < Nf → ∀ b, b < Nf → a ≠ b → (T a).2.1 ≠ (T b).2.1) (f : Nat) (hf : f < Nf) (hw : Cond.fieldLink own ix (T f).1 (T f).2.1 (T f).2.2.1 ∈ lw_g) (hfin : (T f).2.2.2 = false ∨ ((T f).2.2.2 = true ∧ meth.name = "<init>" ∧ (T f).1 = own)) {ty : FieldType} (hd0 : parseFieldDescriptor (T f).2.2.1 = some ty) (hn : narrow ty v = v) (hfit : fits ty v = true) (hl : f < fs.length) (hes : es.set i (.inr (ci, fs.set f v)) = es') (hd : decode cc pc = .ok (.putfield ix, 3)) (h : Sim p l e R s m args below meth c nL A Q k n (Cl G b es' F) (pc + 3) L st kk) : Sim p l e R s m args below meth c nL A Q k n (Cl G b es F) pc L (v :: .ref (b + i) :: st) kk := fun x hx H locs ls hH hS hL => by
  have hts := C.2.2.2.2.1
  have h0 := hH.2.1 i _ he
  have hP : va_P G.1 vwCl [(b + i, .inr (ci, fs))] H := fun q z hz => by
    match q, hz with
    | 0, hz => cases hz; exact h0
    | q + 1, hz => simp at hz
  have hap := va_apart (own := own) hts hin ty0 hty hnm hK hc
  obtain ⟨r, h1, cell, q1, q2, q3, q4⟩ := h0
  have hr : r = (Cn, T, Nf) := Option.some.inj (h1.symm.trans hc)
  subst hr
  obtain ⟨hS0, hfc, kC, hkC, hkind⟩ := hK.1 ci _ hc
  obtain ⟨cf, kf, fi, fd, hi2, hsl⟩ := hS0 f hf
  have hlay := hts _ (hin _ (u_in_lay hf))
  have hst := (u_facts hfc hkC (u_lays hts hin hf) hi2).1
  have key : ∀ H' : Heap, H'[b + i]? = some (cell.setSlot fd.slot v) → H'.size = H.size → (∀ q, q ≠ b + i → H'[q]? = H[q]?) → W p l e R s m args below meth c H' (locs ++ [⟨b + i, fd.slot⟩]) k n (Q x) (F0 m (pc + 3) ls st) := fun H' e1 e2 e3 => by
    rw [hsl] at e1 ⊢
    refine h x hx H' _ ls ?_ (hS.put e2 e3 (hAb _ (by omega))) hL
    rw [← hes]
    exact hH.set hF e2 e3 ⟨_, hc, t_OB.to (V := updV (vp_V fs) f v) ⟨_, e1, q2, q3, t_set q4 hap hf v⟩ (fun j _ => vp_updV_set hl v j)⟩
  unfold u_lay at hlay
  rcases hfin with hfin | ⟨hfin, hname, hdecl⟩
  · rw [if_neg (by rw [hfin]; decide)] at hlay
    have h6 := u_store hfc hkC hkind hlay hi2 hd0 hn hfit
    exact W.putK C.1 C.2.1 (f := fd) ⟨C.2.2.2.1, hts _ hw, ⟨_, _, _, hi2⟩, hst⟩ (by rw [q2]; exact h6) q1 q3 (by rw [hsl]; exact k2_hasslot (q4 f hf)) rfl rfl hd key
  · rw [if_pos hfin] at hlay
    have hcf : m.cls = cf := by
      obtain ⟨_, _, c', _, _, _, -, -, hf', -, -, -, hown2, -⟩ := Cond.laysFinal_spec hlay
      have e1 : c' = cf := by have := hi2.symm.trans hf'; simp at this; exact this.1.symm
      rw [hdecl] at hown2
      rw [← e1]; exact Option.some.inj (C.2.2.2.1.symm.trans hown2)
    have h6 := u_fits hfc hkC hkind (Or.inr hlay) hi2 hd0 hn hfit
    exact W.putFinK C.1 C.2.1 C.2.2.2.1 (hts _ hw) hi2 hst hcf hname (by rw [q2]; exact h6) q1 q3 (by rw [hsl]; exact k2_hasslot (q4 f hf)) rfl rfl hd key
theorem n_get (C : Cx p s m args meth c cc nL own) {G : Gt} (hK : KK G s) {b i ci Nf ix : Nat} {es : List va_E} {F : Heap → Prop} {Cn : String} {T : u_T} {fs : List Value} {v : Value} (he : es[i]? = some (.inr (ci, fs))) (hc : vwCl[ci]? = some (Cn, T, Nf)) (hin : ∀ w ∈ u_ws Cn T Nf, w ∈ lw_g) (f : Nat) (hf : f < Nf) (hw : Cond.fieldLink own ix (T f).1 (T f).2.1 (T f).2.2.1 ∈ lw_g) (hv : fs[f]? = some v) (hd : decode cc pc = .ok (.getfield ix, 3)) (h : Sim p l e R s m args below meth c nL A Q k n (Cl G b es F) (pc + 3) L (v :: st) kk) : Sim p l e R s m args below meth c nL A Q k n (Cl G b es F) pc L (.ref (b + i) :: st) kk := fun x hx H locs ls hH hS hL =>
  va_get (D := G.1) (cl := vwCl) (ws := [(b + i, .inr (ci, fs))]) (ref := (T f).1) C.1 C.2.1 C.2.2.2.2.1 hin C.2.2.2.1 hK (fun q z hz => by
    match q, hz with
    | 0, hz => cases hz; exact hH.2.1 i _ he
    | q + 1, hz => simp at hz) 0 rfl hc f hf (C.2.2.2.2.1 _ hw) (fun _ z => z) hv hd (h x hx H locs ls hH hS hL)
/-- the outer array of new int[N'][K'] at w - 1, its rows from w on -/
theorem n_mna (C : Cx p s m args meth c cc nL own) {G : Gt} (hK : KA G s) {b i N' K' ix : Nat} {z1 z2 : Int} {es es' : List va_E} {F : Heap → Prop} (hF : FrS b F) (hi : es.length = i) (hz1 : z1 = (N' : Int)) (hz2 : z2 = (K' : Int)) (hN : N' ≤ 1000) (hK' : K' ≤ 1000) (hcl : Cond.classLink own ix ("[" ++ (FieldType.array .int).toString) ∈ lw_g) (hes : es ++ (iq G N' (b + (i + 1)) :: List.replicate N' (ia G K' (fun _ => 0))) = es') (hd : decode cc pc = .ok (.multianewarray ix 2, 4)) (hr : k + (1 + N') ≤ R.cells ∧ n + (N' + N' * K') ≤ R.slots) (h : Sim p l e R s m args below meth c nL A Q (k + 1 + N') (n + N' + N' * K') (Cl G b es' F) (pc + 4) L (.ref (b + i) :: st) kk) : Sim p l e R s m args below meth c nL A Q k n (Cl G b es F) pc L (vI z2 :: vI z1 :: st) kk := fun x hx H locs ls hI hS hL => by
  subst hz1 hz2
  have hir : inR (N' : Int) := ⟨by omega, by omega⟩
  have hir2 : inR (K' : Int) := ⟨by omega, by omega⟩
  have hz0 : H.size = b + i := by rw [hI.1, hi]
  have en : (Int32.ofInt (N' : Int)).toNatClampNeg = N' := by rw [i32_nat hir]; simp
  have ek : (Int32.ofInt (K' : Int)).toNatClampNeg = K' := by rw [i32_nat hir2]; simp
  have hneg : ∀ y : Nat, y ≤ 1000 → ¬ Int32.ofInt (y : Int) < 0 := fun y hy q => by
    have := (i32_lt (a := (y : Int)) ⟨by omega, by omega⟩ (inR_c 0 rfl)).mp q
    omega
  intro T hT Xs
  obtain ⟨vm₁, cA, comp, -, fA, fC, hO, -, X', step⟩ := Xs.multianewarray2F C.1 C.2.2.2.1 (C.2.2.2.2.1 _ hcl) hK.2.2 (C.2.2.2.2.1 _ q_a_int) (g := F0 m pc ls (vI (K' : Int) :: vI (N' : Int) :: st)) rfl (by rw [C.2.1]; exact hd) rfl (hneg N' hN) (hneg K' hK') (by rw [en]; omega) (by rw [ek]; show K' * 4 ≤ _; omega) (by rw [ek]; omega) rfl rfl (by rw [en]; exact hr.1) (by rw [en, ek]; exact hr.2)
  have ecI : comp = G.2.1 := Option.some.inj (fC.symm.trans (hK.1.2 0 _ rfl).2)
  have ecA : cA = G.2.2.1 := Option.some.inj (fA.symm.trans (hK.1.2 1 _ rfl).2)
  subst ecI ecA
  rw [en, ek] at X' step
  generalize hFl : Jvm.Free.Multi.fill (T.setVm vm₁) G.2.2.1 G.2.1 N' K' (defaultValue .int) N' = Fl at X' step
  have hTh : (T.setVm vm₁).heap = H := hT
  obtain ⟨f1, f2, -, -⟩ := Jvm.Free.Multi.fill_facts (T.setVm vm₁) G.2.2.1 G.2.1 N' K' (defaultValue .int) N'
  rw [hFl, hTh] at f1 f2
  have hold : ∀ x : Nat, x < H.size → Fl.heap[x]? = H[x]? := fun x hx => by
    have := Jvm.Free.Multi.fill_old (T.setVm vm₁) G.2.2.1 G.2.1 N' K' (defaultValue .int) (a := x) (by rw [hTh]; exact hx) N'
    rw [hFl, hTh] at this
    exact this
  have hrow : ∀ j : Nat, j < N' → Fl.heap[H.size + 1 + j]? = some (Jvm.Free.Multi.innerC G.2.1 K' (defaultValue .int)) := fun j hj => by
    have := Jvm.Free.Multi.fill_inner (T.setVm vm₁) G.2.2.1 G.2.1 N' K' (defaultValue .int) N' j hj
    rw [hFl, hTh] at this
    exact this
  have hCl : Cl G b es' F Fl.heap := by
    rw [← hes]
    refine ⟨by rw [f1, hI.1, List.length_append, List.length_cons, List.length_replicate]; omega, fun q e' hq => ?_, hF H _ hI.2.2 (by rw [f1]; omega) (fun q hq => hold q (by omega))⟩
    by_cases hl : q < es.length
    · rw [List.getElem?_append_left hl] at hq
      exact (hI.2.1 q e' hq).kept (hold _ (by show b + q < _; omega))
    · rw [List.getElem?_append_right (by omega)] at hq
      by_cases hq0 : q = es.length
      · subst hq0
        rw [Nat.sub_self] at hq
        cases hq
        show Fl.heap[b + es.length]? = some (vp_cell _ _)
        rw [hi, ← hz0, f2, vp_cell_q, vr_outerC]
        congr 2
        funext j
        by_cases hj : j < N'
        · simp only [hj, if_true]
          congr 2
          omega
        · simp only [hj, if_false]
      · obtain ⟨r, hr2⟩ : ∃ r, q - es.length = r + 1 := ⟨q - es.length - 1, by omega⟩
        rw [hr2, List.getElem?_cons_succ, List.getElem?_replicate] at hq
        by_cases hrN : r < N'
        · rw [if_pos hrN] at hq
          cases hq
          show Fl.heap[b + q]? = some (vp_cell _ _)
          have e9 : b + q = H.size + 1 + r := by omega
          rw [e9, hrow r hrN]
          congr 1
          exact innerC_0 _ _
        · rw [if_neg hrN] at hq
          cases hq
  obtain ⟨t, a1, b1⟩ := h x hx Fl.heap locs ls hCl ⟨by rw [f1]; have := hS.1; omega, fun x h1 h2 => (hold x (Nat.lt_of_lt_of_le h1 hS.1)).trans (hS.2.1 x h1 h2), hS.2.2⟩ hL Fl rfl X'
  refine ⟨t, step t ?_, b1⟩
  have e5 : T.heap.size = b + i := by rw [hT, hz0]
  rw [e5]
  exact a1
/-- a world of a block and what lies below it -/
def lsL (lay : Lay) (N : Nat) (σ : Blk) : List va_E := (List.range N).map (fun i => lay i (σ i))
def JC (G : Gt) (lay : Lay) (N a : Nat) (F : Heap → Prop) (σ : Blk) : Heap → Prop := Cl G a (lsL lay N σ) F
theorem JC.wd {G : Gt} {lay : Lay} {N a : Nat} {F : Heap → Prop} (hF : FrS a F) : Wd G lay N a (JC G lay N a F) := by
  refine ⟨fun σ H h i hi => h.2.1 i _ (by simp [lsL, hi]), fun σ σ' H H1 h hB hz ho => ⟨by rw [hz, h.1]; simp [lsL], fun i e hi => ?_, hF H H1 h.2.2 (by omega) (fun q hq => ho q (by omega))⟩⟩
  have hi' : i < N := by
    have := (List.getElem?_eq_some_iff.mp hi).1
    simpa [lsL] using this
  have e1 : e = lay i (σ' i) := by
    simp [lsL, hi'] at hi
    exact hi.symm
  rw [e1]
  exact hB i hi'
/-- the call of a constructor on the object that came last -/
theorem n_callC (C : Cx p s m args meth c cc nL own) {G : Gt} (hK : KA G s) {y : MethodName} {bytes : ByteArray} {maxL ix : Nat} {rm : Room} {rest : List Value} {b i : Nat} {lay : Lay} {N : Nat} {mc ms : Nat} {kc : Option Blk} {K : Blk → Option α} {es pre : List va_E} {e0 : va_E} {F : Heap → Prop} (hF : FrS b F) (hAb : ∀ q, b ≤ q → A q)
    (hM : ∀ F' : Heap → Prop, FrS (b + i) F' → MetS l y bytes maxL none rm G [.ref (b + i)] (Cl G (b + i) [e0] F') (poU (JC G lay N (b + i) F')) (fun q => b + i ≤ q) mc ms kc) (hes : es = pre ++ [e0]) (hi : pre.length = i)
    (hq : CallB R s args own ix y bytes maxL none (.code y bytes maxL none :: lw_g) rm mc ms 0) (hy1 : y.name = "<init>") (hin : Cond.instanceMethod y ∈ lw_g)
    (hcat : (rest.map fun v => v.category).sum ≤ 8) (hd : decode cc pc = .ok (.invokespecial ix, 3)) (hf : k + mc ≤ R.cells ∧ n + ms ≤ R.slots)
    (h : ∀ σ', Rg σ' → Sim p l e R s m args below meth c nL A Q (k + mc) (n + ms) (Cl G b (pre ++ lsL lay N σ') F) (pc + 3) L rest (K σ')) : Sim p l e R s m args below meth c nL A Q k n (Cl G b es F) pc L (.ref (b + i) :: rest) (kc.bind K) := s_bind fun z hz x hx H locs ls hI hS hL => by
  have hF' : FrS (b + i) (fun H => (∀ (j : Nat) (e : va_E), pre[j]? = some e → va_at G.1 vwCl (b + j, e) H) ∧ F H) := fun H H1 hh hs ho => ⟨fun j e hj => (hh.1 j e hj).kept (ho _ (by
    have := (List.getElem?_eq_some_iff.mp hj).1
    show b + j < b + i
    omega)), hF H H1 hh.2 hs (fun q hq => ho q (by omega))⟩
  have hpre : Cl G (b + i) [e0] (fun H => (∀ (j : Nat) (e : va_E), pre[j]? = some e → va_at G.1 vwCl (b + j, e) H) ∧ F H) H := by
    subst hes
    refine ⟨by rw [hI.1, List.length_append, hi]; simp; omega, fun j e hj => ?_, fun j e hj => hI.2.1 j e (by rw [List.getElem?_append_left (List.getElem?_eq_some_iff.mp hj).1]; exact hj), hI.2.2⟩
    match j, hj with
    | 0, hj =>
      cases hj
      exact hI.2.1 i _ (by rw [List.getElem?_append_right (by omega), hi, Nat.sub_self]; rfl)
    | j + 1, hj => simp at hj
  refine s_run (G := G) (y := y) (A1 := fun q => b + i ≤ q) (fun q hq => hAb q (by omega)) (va_runI (b := b + i) (As := []) (rest := rest) ⟨C.1, C.2.1, C.2.2.1, C.2.2.2.1, C.2.2.2.2.1⟩ (hM _ hF' z hz) ⟨hq, hy1, C.2.2.2.2.1 _ hin⟩ ⟨pc_blind, fun U hU hW => pc_in hK hpre U hU hW⟩ rfl rfl hL.1 rfl (lv_room hcat) hd hf) hS (fun v H1 locs1 hp _ _ hS1 => ?_)
  obtain ⟨rfl, h1, h2⟩ := hp
  refine h z h1 x hx H1 locs1 ls ⟨by rw [h2.1, List.length_append, hi]; omega, fun j e hj => ?_, h2.2.2.2⟩ hS1 hL
  by_cases hl : j < pre.length
  · rw [List.getElem?_append_left hl] at hj
    exact h2.2.2.1 j e hj
  · rw [List.getElem?_append_right (by omega)] at hj
    have h9 := h2.2.1 (j - pre.length) e hj
    rw [show b + i + (j - pre.length) = b + j by omega] at h9
    exact h9
end CTOR
end
section
def f_J7_fill_53178_L5 (i1 : Nat) (n1 : Nat) (a2 : Int) (v1 : Int) : Nat → Int → Blk → Option (Blk)
  | 0, _, _ => none
  | n + 1, x2, σ3 =>
    if v1 ≤ x2 then (
      some σ3) else (
      Option.bind (sw σ3 i1 n1 x2 a2) fun σ4 =>
      Option.bind (ck (x2 + 1)) fun v5 =>
      f_J7_fill_53178_L5 i1 n1 a2 v1 n v5 σ4)
def f_J7_fill_53178 (σ : Blk) (i1 n1 : Nat) (a2 : Int) : Option (Blk) :=
  nm ((n1 : Int)) fun v1 =>
  f_J7_fill_53178_L5 i1 n1 a2 v1 fu 0 σ
end
section
/-! constructors: what they lay *by program (ctor.py)* -/
def layPg (G : Gt) (b : Nat) : Lay := fun i d => match i with
    | 0 => .inr (3, [.ref (b + 1), .ref (b + 2), .ref (b + 3), .ref (b + 4)])
    | 1 => ia G 400 d
    | 2 => ia G 400 d
    | 3 => ia G 400 d
    | _ => ia G 10 d
theorem o_Pg {G : Gt} {b : Nat} : isO (layPg G b) 0 3 (fun _ => [.ref (b + 1), .ref (b + 2), .ref (b + 3), .ref (b + 4)]) := fun _ => rfl
theorem a_Pg_4 {G : Gt} {b : Nat} : isA G (layPg G b) 4 10 := ⟨by decide, fun _ => rfl⟩
def layHi (G : Gt) (b : Nat) : Lay := fun i d => match i with
    | 0 => .inr (1, [.ref (b + 1), vI (d 1), vI (d 2)])
    | _ => .inl (G.2.2.2, (6, .inr (.inr (.inr (.inr (fun _ => none))))))
def iniH : Blk := fun _ _ => 0
def iniB (σp : Blk) : Blk := fun c j => if c = 0 then (if j = 0 then 6 else if j = 1 then 8 else 0) else if c ≤ 5 then σp (c - 1) j else 0
theorem rg_0 : Rg (fun _ _ => 0) := fun _ _ => inR_c 0 rfl
theorem rg_iniH : Rg iniH := fun _ _ => inR_c 0 rfl
theorem rg_iniB {σp : Blk} (h : Rg σp) : Rg (iniB σp) := by
  intro c j
  unfold iniB
  split
  · split
    · exact inR_c _ rfl
    · split
      · exact inR_c _ rfl
      · exact inR_c _ rfl
  · split
    · exact h _ _
    · exact inR_c _ rfl

def f_X3_init : Option Blk :=
  Option.bind (f_J7_fill_53178 (fun _ _ => 0) 4 10 40) fun σ1 =>
  some σ1
def f_X0_init : Option Blk :=
  Option.bind f_X3_init fun σ1 =>
  Option.bind (f_J7_fill_53178 (iniB σ1) 6 100 ((-1))) fun σ2 =>
  Option.bind (f_J7_fill_53178 σ2 7 30 ((-1))) fun σ3 =>
  some σ3
def f_X2_init : Option Blk :=
  some (fun _ _ => 0)
def f_X1_init : Option Blk :=
  some iniH
def f_X5_init : Option Blk :=
  Option.bind (sw (fun _ _ => 0) 1 763 0 6) fun σ1 =>
  Option.bind (sw σ1 1 763 1 8) fun σ2 =>
  some σ2
end
section
set_option maxHeartbeats 4000000 in
set_option maxRecDepth 100000 in
theorem m_J7_fill_53178 {l : Launch} {G : Gt} {b : Nat} {lay : Lay} {N : Nat} {σ : Blk} {J : Blk → Heap → Prop} (hJ : Wd G lay N b J) (hσ : Rg σ) {i1 n1 : Nat} (hi1 : i1 < N) (ha1 : isA G lay i1 n1) {a2 : Int} (h2 : inR a2) : MetS l yJ7_fill_53178 cJ7_fill_53178 4 none { frames := 0, cells := 0, slots := 0, locals := 0 } G [.ref (b + i1), vI a2] (J σ) (poU J) (Ab b N) 0 0 (f_J7_fill_53178 σ i1 n1 a2) := by
  refine met_of (by decide) (Nat.le_of_ble_eq_true rfl) ?_
  intro p e s m below meth c hC hKA hr _
  have hK := hKA.1
  unfold f_J7_fill_53178
  refine s_sub (L' := [(0, .ref (b + i1)), (1, vI a2)]) [0, 1] rfl ?_
  refine s_iconst hC dJ7_fill_53178_0 ?_
  refine s_istore_n (L' := [(2, vI 0), (0, .ref (b + i1)), (1, vI a2)]) hC dJ7_fill_53178_1 rfl (by decide) rfl ?_
  refine s_aload_n hC dJ7_fill_53178_2 rfl 1 rfl ?_
  refine s_alen hC hK (hJ.1 σ) hi1 ha1 dJ7_fill_53178_3 ?_
  refine s_nm ((inA ha1)) (fun v1 hv1 => ?_)
  refine s_istore_n (L' := [(3, vI v1), (2, vI 0), (0, .ref (b + i1)), (1, vI a2)]) hC dJ7_fill_53178_4 rfl (by decide) rfl ?_
  refine s_sub (L' := [(0, .ref (b + i1)), (1, vI a2), (2, vI 0), (3, vI v1)]) [2, 3, 1, 0] rfl ?_
  refine s_lp_IB (J := J) (F := f_J7_fill_53178_L5 i1 n1 a2 v1) 5 (fun x2 => [(0, .ref (b + i1)), (1, vI a2), (2, vI x2), (3, vI v1)]) (fun _ _ => rfl) (fun n ih5 x2 σ3 hx2 hσ3 => ?_) fu 0 σ (inR_c _ rfl) hσ
  rw [f_J7_fill_53178_L5]
  refine s_iload_n hC dJ7_fill_53178_5 rfl 2 rfl ?_
  refine s_iload_n hC dJ7_fill_53178_6 rfl 3 rfl ?_
  refine s_icmp_ge (tgt := 20) hC dJ7_fill_53178_7 (by decide) hx2 hv1 ?_ ?_
  · refine s_sub (L' := []) [] rfl ?_
    exact s_vret hC hr dJ7_fill_53178_20 (fun H hH => ⟨rfl, hσ3, hH⟩)
  · refine s_aload_n hC dJ7_fill_53178_10 rfl 0 rfl ?_
    refine s_iload_n hC dJ7_fill_53178_11 rfl 2 rfl ?_
    refine s_iload_n hC dJ7_fill_53178_12 rfl 1 rfl ?_
    refine s_iastore hC hK hJ (fun _ h => h) hσ3 h2 hi1 ha1 dJ7_fill_53178_13 (fun σ4 hσ4 => ?_)
    refine s_iincK hC dJ7_fill_53178_14 2 rfl (by decide) (fun v5 => [(2, vI v5), (0, .ref (b + i1)), (1, vI a2), (3, vI v1)]) (fun _ => rfl) (fun v5 hv5 => ?_)
    refine s_goto (tgt := 5) hC dJ7_fill_53178_17 (by decide) ?_
    refine s_sub (L' := [(0, .ref (b + i1)), (1, vI a2), (2, vI v5), (3, vI v1)]) [1, 2, 0, 3] rfl ?_
    exact ih5 v5 σ4 hv5 hσ4
end
section
theorem dd_yX3_init : yX3_init.cls ≠ "java/lang/invoke/MethodHandle" ∧ yX3_init.cls ≠ "java/lang/invoke/VarHandle" ∧ (parseMethodDescriptor yX3_init.desc).map (fun d => d.parameters.length) = some 0 := by decide +kernel
set_option maxHeartbeats 4000000 in
set_option maxRecDepth 100000 in
theorem m_X3_init {l : Launch} {G : Gt} {b : Nat} {F : Heap → Prop} (hF : FrS b F) : MetS l yX3_init cX3_init 1 none { frames := 1, cells := 4, slots := 1210, locals := 23 } G [.ref (b + 0)] (Cl G b [.inr (3, [.null, .null, .null, .null])] F) (poU (JC G (layPg G b) 5 b F)) (fun q => b ≤ q) 4 1210 f_X3_init := by
  refine met_of (by decide) (Nat.le_of_ble_eq_true rfl) ?_
  intro p e s m below meth c hC hKA hr hnm
  have hK := hKA.1
  unfold f_X3_init
  refine s_sub (L' := [(0, .ref (b + 0))]) [0] rfl ?_
  refine s_aload_n hC dX3_init_0 rfl 0 rfl ?_
  refine n_obj hC q_m_X3_3 dX3_init_1 (Nat.le_of_ble_eq_true rfl) (Nat.le_of_ble_eq_true rfl) ?_
  refine s_aload_n hC dX3_init_4 rfl 0 rfl ?_
  refine s_sipush hC dX3_init_5 (by decide) ?_
  refine n_newa (es' := [.inr (3, [.null, .null, .null, .null]), ia G 400 (fun _ => 0)]) hC hK hF (i := 1) rfl (N' := 400) rfl (by decide) rfl dX3_init_8 ⟨Nat.le_of_ble_eq_true rfl, Nat.le_of_ble_eq_true rfl⟩ ?_
  refine n_put (es' := [.inr (3, [.ref (b + 1), .null, .null, .null]), ia G 400 (fun _ => 0)]) (ty := .array (.int)) hC hK hF (fun _ h => h) (i := 0) rfl rfl q_w_X3 tyX3_ok nmX3 0 (by decide) q_f_X3_9 (by first | exact Or.inl rfl | exact Or.inr ⟨rfl, hnm, rfl⟩) (by decide +kernel) rfl rfl (Nat.le_of_ble_eq_true rfl) rfl dX3_init_10 ?_
  refine s_aload_n hC dX3_init_13 rfl 0 rfl ?_
  refine s_sipush hC dX3_init_14 (by decide) ?_
  refine n_newa (es' := [.inr (3, [.ref (b + 1), .null, .null, .null]), ia G 400 (fun _ => 0), ia G 400 (fun _ => 0)]) hC hK hF (i := 2) rfl (N' := 400) rfl (by decide) rfl dX3_init_17 ⟨Nat.le_of_ble_eq_true rfl, Nat.le_of_ble_eq_true rfl⟩ ?_
  refine n_put (es' := [.inr (3, [.ref (b + 1), .ref (b + 2), .null, .null]), ia G 400 (fun _ => 0), ia G 400 (fun _ => 0)]) (ty := .array (.int)) hC hK hF (fun _ h => h) (i := 0) rfl rfl q_w_X3 tyX3_ok nmX3 1 (by decide) q_f_X3_15 (by first | exact Or.inl rfl | exact Or.inr ⟨rfl, hnm, rfl⟩) (by decide +kernel) rfl rfl (Nat.le_of_ble_eq_true rfl) rfl dX3_init_19 ?_
  refine s_aload_n hC dX3_init_22 rfl 0 rfl ?_
  refine s_sipush hC dX3_init_23 (by decide) ?_
  refine n_newa (es' := [.inr (3, [.ref (b + 1), .ref (b + 2), .null, .null]), ia G 400 (fun _ => 0), ia G 400 (fun _ => 0), ia G 400 (fun _ => 0)]) hC hK hF (i := 3) rfl (N' := 400) rfl (by decide) rfl dX3_init_26 ⟨Nat.le_of_ble_eq_true rfl, Nat.le_of_ble_eq_true rfl⟩ ?_
  refine n_put (es' := [.inr (3, [.ref (b + 1), .ref (b + 2), .ref (b + 3), .null]), ia G 400 (fun _ => 0), ia G 400 (fun _ => 0), ia G 400 (fun _ => 0)]) (ty := .array (.int)) hC hK hF (fun _ h => h) (i := 0) rfl rfl q_w_X3 tyX3_ok nmX3 2 (by decide) q_f_X3_18 (by first | exact Or.inl rfl | exact Or.inr ⟨rfl, hnm, rfl⟩) (by decide +kernel) rfl rfl (Nat.le_of_ble_eq_true rfl) rfl dX3_init_28 ?_
  refine s_aload_n hC dX3_init_31 rfl 0 rfl ?_
  refine s_bipush hC dX3_init_32 (by decide) ?_
  refine n_newa (es' := [.inr (3, [.ref (b + 1), .ref (b + 2), .ref (b + 3), .null]), ia G 400 (fun _ => 0), ia G 400 (fun _ => 0), ia G 400 (fun _ => 0), ia G 10 (fun _ => 0)]) hC hK hF (i := 4) rfl (N' := 10) rfl (by decide) rfl dX3_init_34 ⟨Nat.le_of_ble_eq_true rfl, Nat.le_of_ble_eq_true rfl⟩ ?_
  refine n_put (es' := [.inr (3, [.ref (b + 1), .ref (b + 2), .ref (b + 3), .ref (b + 4)]), ia G 400 (fun _ => 0), ia G 400 (fun _ => 0), ia G 400 (fun _ => 0), ia G 10 (fun _ => 0)]) (ty := .array (.int)) hC hK hF (fun _ h => h) (i := 0) rfl rfl q_w_X3 tyX3_ok nmX3 3 (by decide) q_f_X3_21 (by first | exact Or.inl rfl | exact Or.inr ⟨rfl, hnm, rfl⟩) (by decide +kernel) rfl rfl (Nat.le_of_ble_eq_true rfl) rfl dX3_init_36 ?_
  refine s_aload_n hC dX3_init_39 rfl 0 rfl ?_
  refine s_I (I' := JC G (layPg G b) 5 b F (fun _ _ => 0)) (fun H h => h) ?_
  refine s_get hC hK ((JC.wd hF).1 _) (by decide) o_Pg rfl q_w_X3 3 (by decide) q_f_X3_21 rfl dX3_init_40 ?_
  refine s_bipush hC dX3_init_43 (by decide) ?_
  refine s_callS_U (As := [.ref (b + 4), vI 40]) (rest := []) hC hKA 2 (m_J7_fill_53178 (JC.wd hF) rg_0 (by decide) a_Pg_4 (inR_c _ rfl)) (fun _ h => h.1) rfl (cb_of hC 2 q_c_yJ7_fill_53178 q_i_J7 q_m_X3_24 rfl rfl dd_yJ7_fill_53178 ⟨Nat.le_of_ble_eq_true rfl, Nat.le_of_ble_eq_true rfl⟩) q_s_yJ7_fill_53178 rfl (Nat.le_of_ble_eq_true rfl) dX3_init_45 ⟨Nat.le_of_ble_eq_true rfl, Nat.le_of_ble_eq_true rfl⟩ (fun σ1 hσ1 => ?_)
  exact s_vret hC hr dX3_init_48 (fun H hH => ⟨rfl, hσ1, hH⟩)
theorem dd_yX0_init : yX0_init.cls ≠ "java/lang/invoke/MethodHandle" ∧ yX0_init.cls ≠ "java/lang/invoke/VarHandle" ∧ (parseMethodDescriptor yX0_init.desc).map (fun d => d.parameters.length) = some 0 := by decide +kernel
set_option maxHeartbeats 4000000 in
set_option maxRecDepth 100000 in
theorem m_X0_init {l : Launch} {G : Gt} {b : Nat} {F : Heap → Prop} (hF : FrS b F) : MetS l yX0_init cX0_init 1 none { frames := 2, cells := 73, slots := 3924, locals := 43 } G [.ref (b + 0)] (Cl G b [.inr (0, [vI 0, vI 0, vI 0, .null, .null, .null, .null, .null, .null, .null, .null, .null])] F) (poU (JC G (layBook G b) 74 b F)) (fun q => b ≤ q) 73 3924 f_X0_init := by
  refine met_of (by decide) (Nat.le_of_ble_eq_true rfl) ?_
  intro p e s m below meth c hC hKA hr hnm
  have hK := hKA.1
  unfold f_X0_init
  refine s_sub (L' := [(0, .ref (b + 0))]) [0] rfl ?_
  refine s_aload_n hC dX0_init_0 rfl 0 rfl ?_
  refine n_obj hC q_m_X0_3 dX0_init_1 (Nat.le_of_ble_eq_true rfl) (Nat.le_of_ble_eq_true rfl) ?_
  refine s_aload_n hC dX0_init_4 rfl 0 rfl ?_
  refine s_bipush hC dX0_init_5 (by decide) ?_
  refine n_put (es' := [.inr (0, [vI 6, vI 0, vI 0, .null, .null, .null, .null, .null, .null, .null, .null, .null])]) (ty := .int) hC hK hF (fun _ h => h) (i := 0) rfl rfl q_w_X0 tyX0_ok nmX0 0 (by decide) q_f_X0_9 (by first | exact Or.inl rfl | exact Or.inr ⟨rfl, hnm, rfl⟩) (by decide +kernel) rfl rfl (Nat.le_of_ble_eq_true rfl) rfl dX0_init_7 ?_
  refine s_aload_n hC dX0_init_10 rfl 0 rfl ?_
  refine s_bipush hC dX0_init_11 (by decide) ?_
  refine n_put (es' := [.inr (0, [vI 6, vI 8, vI 0, .null, .null, .null, .null, .null, .null, .null, .null, .null])]) (ty := .int) hC hK hF (fun _ h => h) (i := 0) rfl rfl q_w_X0 tyX0_ok nmX0 1 (by decide) q_f_X0_15 (by first | exact Or.inl rfl | exact Or.inr ⟨rfl, hnm, rfl⟩) (by decide +kernel) rfl rfl (Nat.le_of_ble_eq_true rfl) rfl dX0_init_13 ?_
  refine s_aload_n hC dX0_init_16 rfl 0 rfl ?_
  refine s_iconst hC dX0_init_17 ?_
  refine n_put (es' := [.inr (0, [vI 6, vI 8, vI 0, .null, .null, .null, .null, .null, .null, .null, .null, .null])]) (ty := .int) hC hK hF (fun _ h => h) (i := 0) rfl rfl q_w_X0 tyX0_ok nmX0 2 (by decide) q_f_X0_18 (by first | exact Or.inl rfl | exact Or.inr ⟨rfl, hnm, rfl⟩) (by decide +kernel) rfl rfl (Nat.le_of_ble_eq_true rfl) rfl dX0_init_18 ?_
  refine s_aload_n hC dX0_init_21 rfl 0 rfl ?_
  refine n_new (es' := [.inr (0, [vI 6, vI 8, vI 0, .null, .null, .null, .null, .null, .null, .null, .null, .null]), .inr (3, [.null, .null, .null, .null])]) hC hK hF (i := 1) rfl rfl q_w_X3 tyX3_ok q_l_X0_21 q_o_X3 q_i_X3 (fun j hj => by rcases (show j = 0 ∨ j = 1 ∨ j = 2 ∨ j = 3 by omega) with rfl | rfl | rfl | rfl <;> rfl) rfl dX0_init_22 ⟨Nat.le_of_ble_eq_true rfl, Nat.le_of_ble_eq_true rfl⟩ ?_
  refine s_dup hC dX0_init_25 rfl ?_
  refine n_callC (y := yX3_init) (i := 1) (lay := layPg G (b + 1)) (N := 5) (pre := [.inr (0, [vI 6, vI 8, vI 0, .null, .null, .null, .null, .null, .null, .null, .null, .null])]) hC hKA hF (fun _ h => h) (fun F' hF' => m_X3_init hF') rfl rfl (cb_of hC 0 q_c_yX3_init q_i_X3 q_m_X0_23 rfl rfl dd_yX3_init ⟨Nat.le_of_ble_eq_true rfl, Nat.le_of_ble_eq_true rfl⟩) rfl q_i_yX3_init (Nat.le_of_ble_eq_true rfl) dX0_init_26 ⟨Nat.le_of_ble_eq_true rfl, Nat.le_of_ble_eq_true rfl⟩ (fun σ1 hσ1 => ?_)
  refine s_I (I' := Cl G b ([.inr (0, [vI 6, vI 8, vI 0, .null, .null, .null, .null, .null, .null, .null, .null, .null]), layPg G (b + 1) 0 (σ1 0), layPg G (b + 1) 1 (σ1 1), layPg G (b + 1) 2 (σ1 2), layPg G (b + 1) 3 (σ1 3), layPg G (b + 1) 4 (σ1 4)]) F) (fun H h => h) ?_
  refine n_put (es' := [.inr (0, [vI 6, vI 8, vI 0, .ref (b + 1), .null, .null, .null, .null, .null, .null, .null, .null]), layPg G (b + 1) 0 (σ1 0), layPg G (b + 1) 1 (σ1 1), layPg G (b + 1) 2 (σ1 2), layPg G (b + 1) 3 (σ1 3), layPg G (b + 1) 4 (σ1 4)]) (ty := .object "OverflowRows$Pages") hC hK hF (fun _ h => h) (i := 0) rfl rfl q_w_X0 tyX0_ok nmX0 3 (by decide) q_f_X0_24 (by first | exact Or.inl rfl | exact Or.inr ⟨rfl, hnm, rfl⟩) (by decide +kernel) rfl rfl (Nat.le_of_ble_eq_true rfl) rfl dX0_init_29 ?_
  refine s_aload_n hC dX0_init_32 rfl 0 rfl ?_
  refine s_bipush hC dX0_init_33 (by decide) ?_
  refine n_newa (es' := [.inr (0, [vI 6, vI 8, vI 0, .ref (b + 1), .null, .null, .null, .null, .null, .null, .null, .null]), layPg G (b + 1) 0 (σ1 0), layPg G (b + 1) 1 (σ1 1), layPg G (b + 1) 2 (σ1 2), layPg G (b + 1) 3 (σ1 3), layPg G (b + 1) 4 (σ1 4), ia G 100 (fun _ => 0)]) hC hK hF (i := 6) rfl (N' := 100) rfl (by decide) rfl dX0_init_35 ⟨Nat.le_of_ble_eq_true rfl, Nat.le_of_ble_eq_true rfl⟩ ?_
  refine n_put (es' := [.inr (0, [vI 6, vI 8, vI 0, .ref (b + 1), .ref (b + 6), .null, .null, .null, .null, .null, .null, .null]), layPg G (b + 1) 0 (σ1 0), layPg G (b + 1) 1 (σ1 1), layPg G (b + 1) 2 (σ1 2), layPg G (b + 1) 3 (σ1 3), layPg G (b + 1) 4 (σ1 4), ia G 100 (fun _ => 0)]) (ty := .array (.int)) hC hK hF (fun _ h => h) (i := 0) rfl rfl q_w_X0 tyX0_ok nmX0 4 (by decide) q_f_X0_28 (by first | exact Or.inl rfl | exact Or.inr ⟨rfl, hnm, rfl⟩) (by decide +kernel) rfl rfl (Nat.le_of_ble_eq_true rfl) rfl dX0_init_37 ?_
  refine s_aload_n hC dX0_init_40 rfl 0 rfl ?_
  refine s_bipush hC dX0_init_41 (by decide) ?_
  refine n_newa (es' := [.inr (0, [vI 6, vI 8, vI 0, .ref (b + 1), .ref (b + 6), .null, .null, .null, .null, .null, .null, .null]), layPg G (b + 1) 0 (σ1 0), layPg G (b + 1) 1 (σ1 1), layPg G (b + 1) 2 (σ1 2), layPg G (b + 1) 3 (σ1 3), layPg G (b + 1) 4 (σ1 4), ia G 100 (fun _ => 0), ia G 30 (fun _ => 0)]) hC hK hF (i := 7) rfl (N' := 30) rfl (by decide) rfl dX0_init_43 ⟨Nat.le_of_ble_eq_true rfl, Nat.le_of_ble_eq_true rfl⟩ ?_
  refine n_put (es' := [.inr (0, [vI 6, vI 8, vI 0, .ref (b + 1), .ref (b + 6), .ref (b + 7), .null, .null, .null, .null, .null, .null]), layPg G (b + 1) 0 (σ1 0), layPg G (b + 1) 1 (σ1 1), layPg G (b + 1) 2 (σ1 2), layPg G (b + 1) 3 (σ1 3), layPg G (b + 1) 4 (σ1 4), ia G 100 (fun _ => 0), ia G 30 (fun _ => 0)]) (ty := .array (.int)) hC hK hF (fun _ h => h) (i := 0) rfl rfl q_w_X0 tyX0_ok nmX0 5 (by decide) q_f_X0_32 (by first | exact Or.inl rfl | exact Or.inr ⟨rfl, hnm, rfl⟩) (by decide +kernel) rfl rfl (Nat.le_of_ble_eq_true rfl) rfl dX0_init_45 ?_
  refine s_aload_n hC dX0_init_48 rfl 0 rfl ?_
  refine s_bipush hC dX0_init_49 (by decide) ?_
  refine n_newa (es' := [.inr (0, [vI 6, vI 8, vI 0, .ref (b + 1), .ref (b + 6), .ref (b + 7), .null, .null, .null, .null, .null, .null]), layPg G (b + 1) 0 (σ1 0), layPg G (b + 1) 1 (σ1 1), layPg G (b + 1) 2 (σ1 2), layPg G (b + 1) 3 (σ1 3), layPg G (b + 1) 4 (σ1 4), ia G 100 (fun _ => 0), ia G 30 (fun _ => 0), ia G 30 (fun _ => 0)]) hC hK hF (i := 8) rfl (N' := 30) rfl (by decide) rfl dX0_init_51 ⟨Nat.le_of_ble_eq_true rfl, Nat.le_of_ble_eq_true rfl⟩ ?_
  refine n_put (es' := [.inr (0, [vI 6, vI 8, vI 0, .ref (b + 1), .ref (b + 6), .ref (b + 7), .ref (b + 8), .null, .null, .null, .null, .null]), layPg G (b + 1) 0 (σ1 0), layPg G (b + 1) 1 (σ1 1), layPg G (b + 1) 2 (σ1 2), layPg G (b + 1) 3 (σ1 3), layPg G (b + 1) 4 (σ1 4), ia G 100 (fun _ => 0), ia G 30 (fun _ => 0), ia G 30 (fun _ => 0)]) (ty := .array (.int)) hC hK hF (fun _ h => h) (i := 0) rfl rfl q_w_X0 tyX0_ok nmX0 6 (by decide) q_f_X0_35 (by first | exact Or.inl rfl | exact Or.inr ⟨rfl, hnm, rfl⟩) (by decide +kernel) rfl rfl (Nat.le_of_ble_eq_true rfl) rfl dX0_init_53 ?_
  refine s_aload_n hC dX0_init_56 rfl 0 rfl ?_
  refine s_bipush hC dX0_init_57 (by decide) ?_
  refine n_newa (es' := [.inr (0, [vI 6, vI 8, vI 0, .ref (b + 1), .ref (b + 6), .ref (b + 7), .ref (b + 8), .null, .null, .null, .null, .null]), layPg G (b + 1) 0 (σ1 0), layPg G (b + 1) 1 (σ1 1), layPg G (b + 1) 2 (σ1 2), layPg G (b + 1) 3 (σ1 3), layPg G (b + 1) 4 (σ1 4), ia G 100 (fun _ => 0), ia G 30 (fun _ => 0), ia G 30 (fun _ => 0), ia G 30 (fun _ => 0)]) hC hK hF (i := 9) rfl (N' := 30) rfl (by decide) rfl dX0_init_59 ⟨Nat.le_of_ble_eq_true rfl, Nat.le_of_ble_eq_true rfl⟩ ?_
  refine n_put (es' := [.inr (0, [vI 6, vI 8, vI 0, .ref (b + 1), .ref (b + 6), .ref (b + 7), .ref (b + 8), .ref (b + 9), .null, .null, .null, .null]), layPg G (b + 1) 0 (σ1 0), layPg G (b + 1) 1 (σ1 1), layPg G (b + 1) 2 (σ1 2), layPg G (b + 1) 3 (σ1 3), layPg G (b + 1) 4 (σ1 4), ia G 100 (fun _ => 0), ia G 30 (fun _ => 0), ia G 30 (fun _ => 0), ia G 30 (fun _ => 0)]) (ty := .array (.int)) hC hK hF (fun _ h => h) (i := 0) rfl rfl q_w_X0 tyX0_ok nmX0 7 (by decide) q_f_X0_38 (by first | exact Or.inl rfl | exact Or.inr ⟨rfl, hnm, rfl⟩) (by decide +kernel) rfl rfl (Nat.le_of_ble_eq_true rfl) rfl dX0_init_61 ?_
  refine s_aload_n hC dX0_init_64 rfl 0 rfl ?_
  refine s_bipush hC dX0_init_65 (by decide) ?_
  refine n_newa (es' := [.inr (0, [vI 6, vI 8, vI 0, .ref (b + 1), .ref (b + 6), .ref (b + 7), .ref (b + 8), .ref (b + 9), .null, .null, .null, .null]), layPg G (b + 1) 0 (σ1 0), layPg G (b + 1) 1 (σ1 1), layPg G (b + 1) 2 (σ1 2), layPg G (b + 1) 3 (σ1 3), layPg G (b + 1) 4 (σ1 4), ia G 100 (fun _ => 0), ia G 30 (fun _ => 0), ia G 30 (fun _ => 0), ia G 30 (fun _ => 0), ia G 30 (fun _ => 0)]) hC hK hF (i := 10) rfl (N' := 30) rfl (by decide) rfl dX0_init_67 ⟨Nat.le_of_ble_eq_true rfl, Nat.le_of_ble_eq_true rfl⟩ ?_
  refine n_put (es' := [.inr (0, [vI 6, vI 8, vI 0, .ref (b + 1), .ref (b + 6), .ref (b + 7), .ref (b + 8), .ref (b + 9), .ref (b + 10), .null, .null, .null]), layPg G (b + 1) 0 (σ1 0), layPg G (b + 1) 1 (σ1 1), layPg G (b + 1) 2 (σ1 2), layPg G (b + 1) 3 (σ1 3), layPg G (b + 1) 4 (σ1 4), ia G 100 (fun _ => 0), ia G 30 (fun _ => 0), ia G 30 (fun _ => 0), ia G 30 (fun _ => 0), ia G 30 (fun _ => 0)]) (ty := .array (.int)) hC hK hF (fun _ h => h) (i := 0) rfl rfl q_w_X0 tyX0_ok nmX0 8 (by decide) q_f_X0_41 (by first | exact Or.inl rfl | exact Or.inr ⟨rfl, hnm, rfl⟩) (by decide +kernel) rfl rfl (Nat.le_of_ble_eq_true rfl) rfl dX0_init_69 ?_
  refine s_aload_n hC dX0_init_72 rfl 0 rfl ?_
  refine s_bipush hC dX0_init_73 (by decide) ?_
  refine n_newa (es' := [.inr (0, [vI 6, vI 8, vI 0, .ref (b + 1), .ref (b + 6), .ref (b + 7), .ref (b + 8), .ref (b + 9), .ref (b + 10), .null, .null, .null]), layPg G (b + 1) 0 (σ1 0), layPg G (b + 1) 1 (σ1 1), layPg G (b + 1) 2 (σ1 2), layPg G (b + 1) 3 (σ1 3), layPg G (b + 1) 4 (σ1 4), ia G 100 (fun _ => 0), ia G 30 (fun _ => 0), ia G 30 (fun _ => 0), ia G 30 (fun _ => 0), ia G 30 (fun _ => 0), ia G 30 (fun _ => 0)]) hC hK hF (i := 11) rfl (N' := 30) rfl (by decide) rfl dX0_init_75 ⟨Nat.le_of_ble_eq_true rfl, Nat.le_of_ble_eq_true rfl⟩ ?_
  refine n_put (es' := [.inr (0, [vI 6, vI 8, vI 0, .ref (b + 1), .ref (b + 6), .ref (b + 7), .ref (b + 8), .ref (b + 9), .ref (b + 10), .ref (b + 11), .null, .null]), layPg G (b + 1) 0 (σ1 0), layPg G (b + 1) 1 (σ1 1), layPg G (b + 1) 2 (σ1 2), layPg G (b + 1) 3 (σ1 3), layPg G (b + 1) 4 (σ1 4), ia G 100 (fun _ => 0), ia G 30 (fun _ => 0), ia G 30 (fun _ => 0), ia G 30 (fun _ => 0), ia G 30 (fun _ => 0), ia G 30 (fun _ => 0)]) (ty := .array (.int)) hC hK hF (fun _ h => h) (i := 0) rfl rfl q_w_X0 tyX0_ok nmX0 9 (by decide) q_f_X0_44 (by first | exact Or.inl rfl | exact Or.inr ⟨rfl, hnm, rfl⟩) (by decide +kernel) rfl rfl (Nat.le_of_ble_eq_true rfl) rfl dX0_init_77 ?_
  refine s_aload_n hC dX0_init_80 rfl 0 rfl ?_
  refine s_bipush hC dX0_init_81 (by decide) ?_
  refine s_bipush hC dX0_init_83 (by decide) ?_
  refine n_mna (es' := [.inr (0, [vI 6, vI 8, vI 0, .ref (b + 1), .ref (b + 6), .ref (b + 7), .ref (b + 8), .ref (b + 9), .ref (b + 10), .ref (b + 11), .null, .null]), layPg G (b + 1) 0 (σ1 0), layPg G (b + 1) 1 (σ1 1), layPg G (b + 1) 2 (σ1 2), layPg G (b + 1) 3 (σ1 3), layPg G (b + 1) 4 (σ1 4), ia G 100 (fun _ => 0), ia G 30 (fun _ => 0), ia G 30 (fun _ => 0), ia G 30 (fun _ => 0), ia G 30 (fun _ => 0), ia G 30 (fun _ => 0)] ++ (iq G 30 (b + (12 + 1)) :: List.replicate 30 (ia G 40 (fun _ => 0)))) hC hKA hF (i := 12) rfl (N' := 30) (K' := 40) rfl rfl (by decide) (by decide) q_l_X0_47 rfl dX0_init_85 ⟨Nat.le_of_ble_eq_true rfl, Nat.le_of_ble_eq_true rfl⟩ ?_
  refine n_put (es' := [.inr (0, [vI 6, vI 8, vI 0, .ref (b + 1), .ref (b + 6), .ref (b + 7), .ref (b + 8), .ref (b + 9), .ref (b + 10), .ref (b + 11), .ref (b + 12), .null]), layPg G (b + 1) 0 (σ1 0), layPg G (b + 1) 1 (σ1 1), layPg G (b + 1) 2 (σ1 2), layPg G (b + 1) 3 (σ1 3), layPg G (b + 1) 4 (σ1 4), ia G 100 (fun _ => 0), ia G 30 (fun _ => 0), ia G 30 (fun _ => 0), ia G 30 (fun _ => 0), ia G 30 (fun _ => 0), ia G 30 (fun _ => 0)] ++ (iq G 30 (b + (12 + 1)) :: List.replicate 30 (ia G 40 (fun _ => 0)))) (ty := .array (.array (.int))) hC hK hF (fun _ h => h) (i := 0) rfl rfl q_w_X0 tyX0_ok nmX0 10 (by decide) q_f_X0_49 (by first | exact Or.inl rfl | exact Or.inr ⟨rfl, hnm, rfl⟩) (by decide +kernel) rfl rfl (Nat.le_of_ble_eq_true rfl) rfl dX0_init_89 ?_
  refine s_aload_n hC dX0_init_92 rfl 0 rfl ?_
  refine s_bipush hC dX0_init_93 (by decide) ?_
  refine s_bipush hC dX0_init_95 (by decide) ?_
  refine n_mna (es' := [.inr (0, [vI 6, vI 8, vI 0, .ref (b + 1), .ref (b + 6), .ref (b + 7), .ref (b + 8), .ref (b + 9), .ref (b + 10), .ref (b + 11), .ref (b + 12), .null]), layPg G (b + 1) 0 (σ1 0), layPg G (b + 1) 1 (σ1 1), layPg G (b + 1) 2 (σ1 2), layPg G (b + 1) 3 (σ1 3), layPg G (b + 1) 4 (σ1 4), ia G 100 (fun _ => 0), ia G 30 (fun _ => 0), ia G 30 (fun _ => 0), ia G 30 (fun _ => 0), ia G 30 (fun _ => 0), ia G 30 (fun _ => 0)] ++ (iq G 30 (b + (12 + 1)) :: List.replicate 30 (ia G 40 (fun _ => 0))) ++ [] ++ (iq G 30 (b + (43 + 1)) :: List.replicate 30 (ia G 40 (fun _ => 0)))) hC hKA hF (i := 43) rfl (N' := 30) (K' := 40) rfl rfl (by decide) (by decide) q_l_X0_47 rfl dX0_init_97 ⟨Nat.le_of_ble_eq_true rfl, Nat.le_of_ble_eq_true rfl⟩ ?_
  refine n_put (es' := [.inr (0, [vI 6, vI 8, vI 0, .ref (b + 1), .ref (b + 6), .ref (b + 7), .ref (b + 8), .ref (b + 9), .ref (b + 10), .ref (b + 11), .ref (b + 12), .ref (b + 43)]), layPg G (b + 1) 0 (σ1 0), layPg G (b + 1) 1 (σ1 1), layPg G (b + 1) 2 (σ1 2), layPg G (b + 1) 3 (σ1 3), layPg G (b + 1) 4 (σ1 4), ia G 100 (fun _ => 0), ia G 30 (fun _ => 0), ia G 30 (fun _ => 0), ia G 30 (fun _ => 0), ia G 30 (fun _ => 0), ia G 30 (fun _ => 0)] ++ (iq G 30 (b + (12 + 1)) :: List.replicate 30 (ia G 40 (fun _ => 0))) ++ [] ++ (iq G 30 (b + (43 + 1)) :: List.replicate 30 (ia G 40 (fun _ => 0)))) (ty := .array (.array (.int))) hC hK hF (fun _ h => h) (i := 0) rfl rfl q_w_X0 tyX0_ok nmX0 11 (by decide) q_f_X0_52 (by first | exact Or.inl rfl | exact Or.inr ⟨rfl, hnm, rfl⟩) (by decide +kernel) rfl rfl (Nat.le_of_ble_eq_true rfl) rfl dX0_init_101 ?_
  refine s_aload_n hC dX0_init_104 rfl 0 rfl ?_
  refine s_I (I' := JC G (layBook G b) 74 b F (iniB σ1)) (fun H h => h) ?_
  refine s_get hC hK ((JC.wd hF).1 _) (by decide) o_Book rfl q_w_X0 4 (by decide) q_f_X0_28 rfl dX0_init_105 ?_
  refine s_iconst hC dX0_init_108 ?_
  refine s_callS_U (As := [.ref (b + 6), vI ((-1))]) (rest := []) hC hKA 2 (m_J7_fill_53178 (JC.wd hF) (rg_iniB hσ1) (by decide) a_Book_6 (inR_c _ rfl)) (fun _ h => h.1) rfl (cb_of hC 2 q_c_yJ7_fill_53178 q_i_J7 q_m_X0_55 rfl rfl dd_yJ7_fill_53178 ⟨Nat.le_of_ble_eq_true rfl, Nat.le_of_ble_eq_true rfl⟩) q_s_yJ7_fill_53178 rfl (Nat.le_of_ble_eq_true rfl) dX0_init_109 ⟨Nat.le_of_ble_eq_true rfl, Nat.le_of_ble_eq_true rfl⟩ (fun σ2 hσ2 => ?_)
  refine s_aload_n hC dX0_init_112 rfl 0 rfl ?_
  refine s_get hC hK ((JC.wd hF).1 _) (by decide) o_Book rfl q_w_X0 5 (by decide) q_f_X0_32 rfl dX0_init_113 ?_
  refine s_iconst hC dX0_init_116 ?_
  refine s_callS_U (As := [.ref (b + 7), vI ((-1))]) (rest := []) hC hKA 2 (m_J7_fill_53178 (JC.wd hF) hσ2 (by decide) a_Book_7 (inR_c _ rfl)) (fun _ h => h.1) rfl (cb_of hC 2 q_c_yJ7_fill_53178 q_i_J7 q_m_X0_55 rfl rfl dd_yJ7_fill_53178 ⟨Nat.le_of_ble_eq_true rfl, Nat.le_of_ble_eq_true rfl⟩) q_s_yJ7_fill_53178 rfl (Nat.le_of_ble_eq_true rfl) dX0_init_117 ⟨Nat.le_of_ble_eq_true rfl, Nat.le_of_ble_eq_true rfl⟩ (fun σ3 hσ3 => ?_)
  exact s_vret hC hr dX0_init_120 (fun H hH => ⟨rfl, hσ3, hH⟩)
theorem dd_yX2_init : yX2_init.cls ≠ "java/lang/invoke/MethodHandle" ∧ yX2_init.cls ≠ "java/lang/invoke/VarHandle" ∧ (parseMethodDescriptor yX2_init.desc).map (fun d => d.parameters.length) = some 0 := by decide +kernel
set_option maxHeartbeats 4000000 in
set_option maxRecDepth 100000 in
theorem m_X2_init {l : Launch} {G : Gt} {b : Nat} {F : Heap → Prop} (hF : FrS b F) : MetS l yX2_init cX2_init 1 none { frames := 1, cells := 4, slots := 161, locals := 20 } G [.ref (b + 0)] (Cl G b [.inr (2, [.null, vI 0, vI 0, .null, .null, .null, vI 0, vI 0, vI 0])] F) (poU (JC G (layPad G b) 5 b F)) (fun q => b ≤ q) 4 161 f_X2_init := by
  refine met_of (by decide) (Nat.le_of_ble_eq_true rfl) ?_
  intro p e s m below meth c hC hKA hr hnm
  have hK := hKA.1
  unfold f_X2_init
  refine s_sub (L' := [(0, .ref (b + 0))]) [0] rfl ?_
  refine s_aload_n hC dX2_init_0 rfl 0 rfl ?_
  refine n_obj hC q_m_X2_3 dX2_init_1 (Nat.le_of_ble_eq_true rfl) (Nat.le_of_ble_eq_true rfl) ?_
  refine s_aload_n hC dX2_init_4 rfl 0 rfl ?_
  refine s_bipush hC dX2_init_5 (by decide) ?_
  refine n_newa (es' := [.inr (2, [.null, vI 0, vI 0, .null, .null, .null, vI 0, vI 0, vI 0]), ia G 80 (fun _ => 0)]) hC hK hF (i := 1) rfl (N' := 80) rfl (by decide) rfl dX2_init_7 ⟨Nat.le_of_ble_eq_true rfl, Nat.le_of_ble_eq_true rfl⟩ ?_
  refine n_put (es' := [.inr (2, [.ref (b + 1), vI 0, vI 0, .null, .null, .null, vI 0, vI 0, vI 0]), ia G 80 (fun _ => 0)]) (ty := .array (.int)) hC hK hF (fun _ h => h) (i := 0) rfl rfl q_w_X2 tyX2_ok nmX2 0 (by decide) q_f_X2_9 (by first | exact Or.inl rfl | exact Or.inr ⟨rfl, hnm, rfl⟩) (by decide +kernel) rfl rfl (Nat.le_of_ble_eq_true rfl) rfl dX2_init_9 ?_
  refine s_aload_n hC dX2_init_12 rfl 0 rfl ?_
  refine s_iconst hC dX2_init_13 ?_
  refine n_put (es' := [.inr (2, [.ref (b + 1), vI 0, vI 0, .null, .null, .null, vI 0, vI 0, vI 0]), ia G 80 (fun _ => 0)]) (ty := .int) hC hK hF (fun _ h => h) (i := 0) rfl rfl q_w_X2 tyX2_ok nmX2 1 (by decide) q_f_X2_15 (by first | exact Or.inl rfl | exact Or.inr ⟨rfl, hnm, rfl⟩) (by decide +kernel) rfl rfl (Nat.le_of_ble_eq_true rfl) rfl dX2_init_14 ?_
  refine s_aload_n hC dX2_init_17 rfl 0 rfl ?_
  refine s_iconst hC dX2_init_18 ?_
  refine n_put (es' := [.inr (2, [.ref (b + 1), vI 0, vI 0, .null, .null, .null, vI 0, vI 0, vI 0]), ia G 80 (fun _ => 0)]) (ty := .int) hC hK hF (fun _ h => h) (i := 0) rfl rfl q_w_X2 tyX2_ok nmX2 2 (by decide) q_f_X2_19 (by first | exact Or.inl rfl | exact Or.inr ⟨rfl, hnm, rfl⟩) (by decide +kernel) rfl rfl (Nat.le_of_ble_eq_true rfl) rfl dX2_init_19 ?_
  refine s_aload_n hC dX2_init_22 rfl 0 rfl ?_
  refine s_bipush hC dX2_init_23 (by decide) ?_
  refine n_newa (es' := [.inr (2, [.ref (b + 1), vI 0, vI 0, .null, .null, .null, vI 0, vI 0, vI 0]), ia G 80 (fun _ => 0), ia G 27 (fun _ => 0)]) hC hK hF (i := 2) rfl (N' := 27) rfl (by decide) rfl dX2_init_25 ⟨Nat.le_of_ble_eq_true rfl, Nat.le_of_ble_eq_true rfl⟩ ?_
  refine n_put (es' := [.inr (2, [.ref (b + 1), vI 0, vI 0, .ref (b + 2), .null, .null, vI 0, vI 0, vI 0]), ia G 80 (fun _ => 0), ia G 27 (fun _ => 0)]) (ty := .array (.int)) hC hK hF (fun _ h => h) (i := 0) rfl rfl q_w_X2 tyX2_ok nmX2 3 (by decide) q_f_X2_22 (by first | exact Or.inl rfl | exact Or.inr ⟨rfl, hnm, rfl⟩) (by decide +kernel) rfl rfl (Nat.le_of_ble_eq_true rfl) rfl dX2_init_27 ?_
  refine s_aload_n hC dX2_init_30 rfl 0 rfl ?_
  refine s_bipush hC dX2_init_31 (by decide) ?_
  refine n_newa (es' := [.inr (2, [.ref (b + 1), vI 0, vI 0, .ref (b + 2), .null, .null, vI 0, vI 0, vI 0]), ia G 80 (fun _ => 0), ia G 27 (fun _ => 0), ia G 27 (fun _ => 0)]) hC hK hF (i := 3) rfl (N' := 27) rfl (by decide) rfl dX2_init_33 ⟨Nat.le_of_ble_eq_true rfl, Nat.le_of_ble_eq_true rfl⟩ ?_
  refine n_put (es' := [.inr (2, [.ref (b + 1), vI 0, vI 0, .ref (b + 2), .ref (b + 3), .null, vI 0, vI 0, vI 0]), ia G 80 (fun _ => 0), ia G 27 (fun _ => 0), ia G 27 (fun _ => 0)]) (ty := .array (.int)) hC hK hF (fun _ h => h) (i := 0) rfl rfl q_w_X2 tyX2_ok nmX2 4 (by decide) q_f_X2_25 (by first | exact Or.inl rfl | exact Or.inr ⟨rfl, hnm, rfl⟩) (by decide +kernel) rfl rfl (Nat.le_of_ble_eq_true rfl) rfl dX2_init_35 ?_
  refine s_aload_n hC dX2_init_38 rfl 0 rfl ?_
  refine s_bipush hC dX2_init_39 (by decide) ?_
  refine n_newa (es' := [.inr (2, [.ref (b + 1), vI 0, vI 0, .ref (b + 2), .ref (b + 3), .null, vI 0, vI 0, vI 0]), ia G 80 (fun _ => 0), ia G 27 (fun _ => 0), ia G 27 (fun _ => 0), ia G 27 (fun _ => 0)]) hC hK hF (i := 4) rfl (N' := 27) rfl (by decide) rfl dX2_init_41 ⟨Nat.le_of_ble_eq_true rfl, Nat.le_of_ble_eq_true rfl⟩ ?_
  refine n_put (es' := [.inr (2, [.ref (b + 1), vI 0, vI 0, .ref (b + 2), .ref (b + 3), .ref (b + 4), vI 0, vI 0, vI 0]), ia G 80 (fun _ => 0), ia G 27 (fun _ => 0), ia G 27 (fun _ => 0), ia G 27 (fun _ => 0)]) (ty := .array (.int)) hC hK hF (fun _ h => h) (i := 0) rfl rfl q_w_X2 tyX2_ok nmX2 5 (by decide) q_f_X2_28 (by first | exact Or.inl rfl | exact Or.inr ⟨rfl, hnm, rfl⟩) (by decide +kernel) rfl rfl (Nat.le_of_ble_eq_true rfl) rfl dX2_init_43 ?_
  refine s_aload_n hC dX2_init_46 rfl 0 rfl ?_
  refine s_iconst hC dX2_init_47 ?_
  refine n_put (es' := [.inr (2, [.ref (b + 1), vI 0, vI 0, .ref (b + 2), .ref (b + 3), .ref (b + 4), vI 0, vI 0, vI 0]), ia G 80 (fun _ => 0), ia G 27 (fun _ => 0), ia G 27 (fun _ => 0), ia G 27 (fun _ => 0)]) (ty := .boolean) hC hK hF (fun _ h => h) (i := 0) rfl rfl q_w_X2 tyX2_ok nmX2 6 (by decide) q_f_X2_31 (by first | exact Or.inl rfl | exact Or.inr ⟨rfl, hnm, rfl⟩) (by decide +kernel) rfl rfl (Nat.le_of_ble_eq_true rfl) rfl dX2_init_48 ?_
  refine s_aload_n hC dX2_init_51 rfl 0 rfl ?_
  refine s_iconst hC dX2_init_52 ?_
  refine n_put (es' := [.inr (2, [.ref (b + 1), vI 0, vI 0, .ref (b + 2), .ref (b + 3), .ref (b + 4), vI 0, vI 0, vI 0]), ia G 80 (fun _ => 0), ia G 27 (fun _ => 0), ia G 27 (fun _ => 0), ia G 27 (fun _ => 0)]) (ty := .int) hC hK hF (fun _ h => h) (i := 0) rfl rfl q_w_X2 tyX2_ok nmX2 7 (by decide) q_f_X2_35 (by first | exact Or.inl rfl | exact Or.inr ⟨rfl, hnm, rfl⟩) (by decide +kernel) rfl rfl (Nat.le_of_ble_eq_true rfl) rfl dX2_init_53 ?_
  refine s_aload_n hC dX2_init_56 rfl 0 rfl ?_
  refine s_iconst hC dX2_init_57 ?_
  refine n_put (es' := [.inr (2, [.ref (b + 1), vI 0, vI 0, .ref (b + 2), .ref (b + 3), .ref (b + 4), vI 0, vI 0, vI 0]), ia G 80 (fun _ => 0), ia G 27 (fun _ => 0), ia G 27 (fun _ => 0), ia G 27 (fun _ => 0)]) (ty := .int) hC hK hF (fun _ h => h) (i := 0) rfl rfl q_w_X2 tyX2_ok nmX2 8 (by decide) q_f_X2_38 (by first | exact Or.inl rfl | exact Or.inr ⟨rfl, hnm, rfl⟩) (by decide +kernel) rfl rfl (Nat.le_of_ble_eq_true rfl) rfl dX2_init_58 ?_
  refine s_I (I' := JC G (layPad G b) 5 b F (fun _ _ => 0)) (fun H h => h) ?_
  exact s_vret hC hr dX2_init_61 (fun H hH => ⟨rfl, rg_0, hH⟩)
theorem dd_yX1_init : yX1_init.cls ≠ "java/lang/invoke/MethodHandle" ∧ yX1_init.cls ≠ "java/lang/invoke/VarHandle" ∧ (parseMethodDescriptor yX1_init.desc).map (fun d => d.parameters.length) = some 0 := by decide +kernel
set_option maxHeartbeats 4000000 in
set_option maxRecDepth 100000 in
theorem m_X1_init {l : Launch} {G : Gt} {b : Nat} {F : Heap → Prop} (hF : FrS b F) : MetS l yX1_init cX1_init 1 none { frames := 1, cells := 1, slots := 6, locals := 20 } G [.ref (b + 0)] (Cl G b [.inr (1, [.null, vI 0, vI 0])] F) (poU (JC G (layHi G b) 2 b F)) (fun q => b ≤ q) 1 6 f_X1_init := by
  refine met_of (by decide) (Nat.le_of_ble_eq_true rfl) ?_
  intro p e s m below meth c hC hKA hr hnm
  have hK := hKA.1
  unfold f_X1_init
  refine s_sub (L' := [(0, .ref (b + 0))]) [0] rfl ?_
  refine s_aload_n hC dX1_init_0 rfl 0 rfl ?_
  refine n_obj hC q_m_X1_3 dX1_init_1 (Nat.le_of_ble_eq_true rfl) (Nat.le_of_ble_eq_true rfl) ?_
  refine s_aload_n hC dX1_init_4 rfl 0 rfl ?_
  refine s_bipush hC dX1_init_5 (by decide) ?_
  refine n_newq (es' := [.inr (1, [.null, vI 0, vI 0]), .inl (G.2.2.2, (6, .inr (.inr (.inr (.inr (fun _ => none))))))]) hC hKA hF (i := 1) rfl (N' := 6) rfl (by decide) q_l_X1_9 rfl dX1_init_7 ⟨Nat.le_of_ble_eq_true rfl, Nat.le_of_ble_eq_true rfl⟩ ?_
  refine n_put (es' := [.inr (1, [.ref (b + 1), vI 0, vI 0]), .inl (G.2.2.2, (6, .inr (.inr (.inr (.inr (fun _ => none))))))]) (ty := .array (.object "OverflowRows$Book")) hC hK hF (fun _ h => h) (i := 0) rfl rfl q_w_X1 tyX1_ok nmX1 0 (by decide) q_f_X1_11 (by first | exact Or.inl rfl | exact Or.inr ⟨rfl, hnm, rfl⟩) (by decide +kernel) rfl rfl (Nat.le_of_ble_eq_true rfl) rfl dX1_init_10 ?_
  refine s_aload_n hC dX1_init_13 rfl 0 rfl ?_
  refine s_iconst hC dX1_init_14 ?_
  refine n_put (es' := [.inr (1, [.ref (b + 1), vI 0, vI 0]), .inl (G.2.2.2, (6, .inr (.inr (.inr (.inr (fun _ => none))))))]) (ty := .int) hC hK hF (fun _ h => h) (i := 0) rfl rfl q_w_X1 tyX1_ok nmX1 1 (by decide) q_f_X1_17 (by first | exact Or.inl rfl | exact Or.inr ⟨rfl, hnm, rfl⟩) (by decide +kernel) rfl rfl (Nat.le_of_ble_eq_true rfl) rfl dX1_init_15 ?_
  refine s_aload_n hC dX1_init_18 rfl 0 rfl ?_
  refine s_iconst hC dX1_init_19 ?_
  refine n_put (es' := [.inr (1, [.ref (b + 1), vI 0, vI 0]), .inl (G.2.2.2, (6, .inr (.inr (.inr (.inr (fun _ => none))))))]) (ty := .int) hC hK hF (fun _ h => h) (i := 0) rfl rfl q_w_X1 tyX1_ok nmX1 2 (by decide) q_f_X1_21 (by first | exact Or.inl rfl | exact Or.inr ⟨rfl, hnm, rfl⟩) (by decide +kernel) rfl rfl (Nat.le_of_ble_eq_true rfl) rfl dX1_init_20 ?_
  refine s_I (I' := JC G (layHi G b) 2 b F iniH) (fun H h => h) ?_
  exact s_vret hC hr dX1_init_23 (fun H hH => ⟨rfl, rg_iniH, hH⟩)
theorem dd_yX5_init : yX5_init.cls ≠ "java/lang/invoke/MethodHandle" ∧ yX5_init.cls ≠ "java/lang/invoke/VarHandle" ∧ (parseMethodDescriptor yX5_init.desc).map (fun d => d.parameters.length) = some 0 := by decide +kernel
set_option maxHeartbeats 4000000 in
set_option maxRecDepth 100000 in
theorem m_X5_init {l : Launch} {G : Gt} {b : Nat} {F : Heap → Prop} (hF : FrS b F) : MetS l yX5_init cX5_init 1 none { frames := 1, cells := 9, slots := 8555, locals := 20 } G [.ref (b + 0)] (Cl G b [.inr (5, [.null, .null, .null, .null, vI 0, .null, .null, .null, vI 0, .null, vI 0, .null, vI 0])] F) (poU (JC G (layModel G b) 10 b F)) (fun q => b ≤ q) 9 8555 f_X5_init := by
  refine met_of (by decide) (Nat.le_of_ble_eq_true rfl) ?_
  intro p e s m below meth c hC hKA hr hnm
  have hK := hKA.1
  unfold f_X5_init
  refine s_sub (L' := [(0, .ref (b + 0))]) [0] rfl ?_
  refine s_aload_n hC dX5_init_0 rfl 0 rfl ?_
  refine n_obj hC q_m_X5_1 dX5_init_1 (Nat.le_of_ble_eq_true rfl) (Nat.le_of_ble_eq_true rfl) ?_
  refine s_aload_n hC dX5_init_4 rfl 0 rfl ?_
  refine s_sipush hC dX5_init_5 (by decide) ?_
  refine n_newa (es' := [.inr (5, [.null, .null, .null, .null, vI 0, .null, .null, .null, vI 0, .null, vI 0, .null, vI 0]), ia G 763 (fun _ => 0)]) hC hK hF (i := 1) rfl (N' := 763) rfl (by decide) rfl dX5_init_8 ⟨Nat.le_of_ble_eq_true rfl, Nat.le_of_ble_eq_true rfl⟩ ?_
  refine n_put (es' := [.inr (5, [.ref (b + 1), .null, .null, .null, vI 0, .null, .null, .null, vI 0, .null, vI 0, .null, vI 0]), ia G 763 (fun _ => 0)]) (ty := .array (.int)) hC hK hF (fun _ h => h) (i := 0) rfl rfl q_w_X5 tyX5_ok nmX5 0 (by decide) q_f_X5_7 (by first | exact Or.inl rfl | exact Or.inr ⟨rfl, hnm, rfl⟩) (by decide +kernel) rfl rfl (Nat.le_of_ble_eq_true rfl) rfl dX5_init_10 ?_
  refine s_aload_n hC dX5_init_13 rfl 0 rfl ?_
  refine s_sipush hC dX5_init_14 (by decide) ?_
  refine n_newa (es' := [.inr (5, [.ref (b + 1), .null, .null, .null, vI 0, .null, .null, .null, vI 0, .null, vI 0, .null, vI 0]), ia G 763 (fun _ => 0), ia G 763 (fun _ => 0)]) hC hK hF (i := 2) rfl (N' := 763) rfl (by decide) rfl dX5_init_17 ⟨Nat.le_of_ble_eq_true rfl, Nat.le_of_ble_eq_true rfl⟩ ?_
  refine n_put (es' := [.inr (5, [.ref (b + 1), .ref (b + 2), .null, .null, vI 0, .null, .null, .null, vI 0, .null, vI 0, .null, vI 0]), ia G 763 (fun _ => 0), ia G 763 (fun _ => 0)]) (ty := .array (.int)) hC hK hF (fun _ h => h) (i := 0) rfl rfl q_w_X5 tyX5_ok nmX5 1 (by decide) q_f_X5_13 (by first | exact Or.inl rfl | exact Or.inr ⟨rfl, hnm, rfl⟩) (by decide +kernel) rfl rfl (Nat.le_of_ble_eq_true rfl) rfl dX5_init_19 ?_
  refine s_aload_n hC dX5_init_22 rfl 0 rfl ?_
  refine s_sipush hC dX5_init_23 (by decide) ?_
  refine n_newa (es' := [.inr (5, [.ref (b + 1), .ref (b + 2), .null, .null, vI 0, .null, .null, .null, vI 0, .null, vI 0, .null, vI 0]), ia G 763 (fun _ => 0), ia G 763 (fun _ => 0), ia G 763 (fun _ => 0)]) hC hK hF (i := 3) rfl (N' := 763) rfl (by decide) rfl dX5_init_26 ⟨Nat.le_of_ble_eq_true rfl, Nat.le_of_ble_eq_true rfl⟩ ?_
  refine n_put (es' := [.inr (5, [.ref (b + 1), .ref (b + 2), .ref (b + 3), .null, vI 0, .null, .null, .null, vI 0, .null, vI 0, .null, vI 0]), ia G 763 (fun _ => 0), ia G 763 (fun _ => 0), ia G 763 (fun _ => 0)]) (ty := .array (.int)) hC hK hF (fun _ h => h) (i := 0) rfl rfl q_w_X5 tyX5_ok nmX5 2 (by decide) q_f_X5_16 (by first | exact Or.inl rfl | exact Or.inr ⟨rfl, hnm, rfl⟩) (by decide +kernel) rfl rfl (Nat.le_of_ble_eq_true rfl) rfl dX5_init_28 ?_
  refine s_aload_n hC dX5_init_31 rfl 0 rfl ?_
  refine s_sipush hC dX5_init_32 (by decide) ?_
  refine n_newa (es' := [.inr (5, [.ref (b + 1), .ref (b + 2), .ref (b + 3), .null, vI 0, .null, .null, .null, vI 0, .null, vI 0, .null, vI 0]), ia G 763 (fun _ => 0), ia G 763 (fun _ => 0), ia G 763 (fun _ => 0), ia G 4578 (fun _ => 0)]) hC hK hF (i := 4) rfl (N' := 4578) rfl (by decide) rfl dX5_init_35 ⟨Nat.le_of_ble_eq_true rfl, Nat.le_of_ble_eq_true rfl⟩ ?_
  refine n_put (es' := [.inr (5, [.ref (b + 1), .ref (b + 2), .ref (b + 3), .ref (b + 4), vI 0, .null, .null, .null, vI 0, .null, vI 0, .null, vI 0]), ia G 763 (fun _ => 0), ia G 763 (fun _ => 0), ia G 763 (fun _ => 0), ia G 4578 (fun _ => 0)]) (ty := .array (.int)) hC hK hF (fun _ h => h) (i := 0) rfl rfl q_w_X5 tyX5_ok nmX5 3 (by decide) q_f_X5_19 (by first | exact Or.inl rfl | exact Or.inr ⟨rfl, hnm, rfl⟩) (by decide +kernel) rfl rfl (Nat.le_of_ble_eq_true rfl) rfl dX5_init_37 ?_
  refine s_aload_n hC dX5_init_40 rfl 0 rfl ?_
  refine s_sipush hC dX5_init_41 (by decide) ?_
  refine n_newa (es' := [.inr (5, [.ref (b + 1), .ref (b + 2), .ref (b + 3), .ref (b + 4), vI 0, .null, .null, .null, vI 0, .null, vI 0, .null, vI 0]), ia G 763 (fun _ => 0), ia G 763 (fun _ => 0), ia G 763 (fun _ => 0), ia G 4578 (fun _ => 0), ia G 1526 (fun _ => 0)]) hC hK hF (i := 5) rfl (N' := 1526) rfl (by decide) rfl dX5_init_44 ⟨Nat.le_of_ble_eq_true rfl, Nat.le_of_ble_eq_true rfl⟩ ?_
  refine n_put (es' := [.inr (5, [.ref (b + 1), .ref (b + 2), .ref (b + 3), .ref (b + 4), vI 0, .ref (b + 5), .null, .null, vI 0, .null, vI 0, .null, vI 0]), ia G 763 (fun _ => 0), ia G 763 (fun _ => 0), ia G 763 (fun _ => 0), ia G 4578 (fun _ => 0), ia G 1526 (fun _ => 0)]) (ty := .array (.int)) hC hK hF (fun _ h => h) (i := 0) rfl rfl q_w_X5 tyX5_ok nmX5 5 (by decide) q_f_X5_22 (by first | exact Or.inl rfl | exact Or.inr ⟨rfl, hnm, rfl⟩) (by decide +kernel) rfl rfl (Nat.le_of_ble_eq_true rfl) rfl dX5_init_46 ?_
  refine s_aload_n hC dX5_init_49 rfl 0 rfl ?_
  refine s_iconst hC dX5_init_50 ?_
  refine n_newa (es' := [.inr (5, [.ref (b + 1), .ref (b + 2), .ref (b + 3), .ref (b + 4), vI 0, .ref (b + 5), .null, .null, vI 0, .null, vI 0, .null, vI 0]), ia G 763 (fun _ => 0), ia G 763 (fun _ => 0), ia G 763 (fun _ => 0), ia G 4578 (fun _ => 0), ia G 1526 (fun _ => 0), ia G 2 (fun _ => 0)]) hC hK hF (i := 6) rfl (N' := 2) rfl (by decide) rfl dX5_init_51 ⟨Nat.le_of_ble_eq_true rfl, Nat.le_of_ble_eq_true rfl⟩ ?_
  refine n_put (es' := [.inr (5, [.ref (b + 1), .ref (b + 2), .ref (b + 3), .ref (b + 4), vI 0, .ref (b + 5), .ref (b + 6), .null, vI 0, .null, vI 0, .null, vI 0]), ia G 763 (fun _ => 0), ia G 763 (fun _ => 0), ia G 763 (fun _ => 0), ia G 4578 (fun _ => 0), ia G 1526 (fun _ => 0), ia G 2 (fun _ => 0)]) (ty := .array (.int)) hC hK hF (fun _ h => h) (i := 0) rfl rfl q_w_X5 tyX5_ok nmX5 6 (by decide) q_f_X5_25 (by first | exact Or.inl rfl | exact Or.inr ⟨rfl, hnm, rfl⟩) (by decide +kernel) rfl rfl (Nat.le_of_ble_eq_true rfl) rfl dX5_init_53 ?_
  refine s_aload_n hC dX5_init_56 rfl 0 rfl ?_
  refine s_bipush hC dX5_init_57 (by decide) ?_
  refine n_newa (es' := [.inr (5, [.ref (b + 1), .ref (b + 2), .ref (b + 3), .ref (b + 4), vI 0, .ref (b + 5), .ref (b + 6), .null, vI 0, .null, vI 0, .null, vI 0]), ia G 763 (fun _ => 0), ia G 763 (fun _ => 0), ia G 763 (fun _ => 0), ia G 4578 (fun _ => 0), ia G 1526 (fun _ => 0), ia G 2 (fun _ => 0), ia G 80 (fun _ => 0)]) hC hK hF (i := 7) rfl (N' := 80) rfl (by decide) rfl dX5_init_59 ⟨Nat.le_of_ble_eq_true rfl, Nat.le_of_ble_eq_true rfl⟩ ?_
  refine n_put (es' := [.inr (5, [.ref (b + 1), .ref (b + 2), .ref (b + 3), .ref (b + 4), vI 0, .ref (b + 5), .ref (b + 6), .ref (b + 7), vI 0, .null, vI 0, .null, vI 0]), ia G 763 (fun _ => 0), ia G 763 (fun _ => 0), ia G 763 (fun _ => 0), ia G 4578 (fun _ => 0), ia G 1526 (fun _ => 0), ia G 2 (fun _ => 0), ia G 80 (fun _ => 0)]) (ty := .array (.int)) hC hK hF (fun _ h => h) (i := 0) rfl rfl q_w_X5 tyX5_ok nmX5 7 (by decide) q_f_X5_28 (by first | exact Or.inl rfl | exact Or.inr ⟨rfl, hnm, rfl⟩) (by decide +kernel) rfl rfl (Nat.le_of_ble_eq_true rfl) rfl dX5_init_61 ?_
  refine s_aload_n hC dX5_init_64 rfl 0 rfl ?_
  refine s_bipush hC dX5_init_65 (by decide) ?_
  refine n_newa (es' := [.inr (5, [.ref (b + 1), .ref (b + 2), .ref (b + 3), .ref (b + 4), vI 0, .ref (b + 5), .ref (b + 6), .ref (b + 7), vI 0, .null, vI 0, .null, vI 0]), ia G 763 (fun _ => 0), ia G 763 (fun _ => 0), ia G 763 (fun _ => 0), ia G 4578 (fun _ => 0), ia G 1526 (fun _ => 0), ia G 2 (fun _ => 0), ia G 80 (fun _ => 0), ia G 40 (fun _ => 0)]) hC hK hF (i := 8) rfl (N' := 40) rfl (by decide) rfl dX5_init_67 ⟨Nat.le_of_ble_eq_true rfl, Nat.le_of_ble_eq_true rfl⟩ ?_
  refine n_put (es' := [.inr (5, [.ref (b + 1), .ref (b + 2), .ref (b + 3), .ref (b + 4), vI 0, .ref (b + 5), .ref (b + 6), .ref (b + 7), vI 0, .ref (b + 8), vI 0, .null, vI 0]), ia G 763 (fun _ => 0), ia G 763 (fun _ => 0), ia G 763 (fun _ => 0), ia G 4578 (fun _ => 0), ia G 1526 (fun _ => 0), ia G 2 (fun _ => 0), ia G 80 (fun _ => 0), ia G 40 (fun _ => 0)]) (ty := .array (.int)) hC hK hF (fun _ h => h) (i := 0) rfl rfl q_w_X5 tyX5_ok nmX5 9 (by decide) q_f_X5_31 (by first | exact Or.inl rfl | exact Or.inr ⟨rfl, hnm, rfl⟩) (by decide +kernel) rfl rfl (Nat.le_of_ble_eq_true rfl) rfl dX5_init_69 ?_
  refine s_aload_n hC dX5_init_72 rfl 0 rfl ?_
  refine s_bipush hC dX5_init_73 (by decide) ?_
  refine n_newa (es' := [.inr (5, [.ref (b + 1), .ref (b + 2), .ref (b + 3), .ref (b + 4), vI 0, .ref (b + 5), .ref (b + 6), .ref (b + 7), vI 0, .ref (b + 8), vI 0, .null, vI 0]), ia G 763 (fun _ => 0), ia G 763 (fun _ => 0), ia G 763 (fun _ => 0), ia G 4578 (fun _ => 0), ia G 1526 (fun _ => 0), ia G 2 (fun _ => 0), ia G 80 (fun _ => 0), ia G 40 (fun _ => 0), ia G 40 (fun _ => 0)]) hC hK hF (i := 9) rfl (N' := 40) rfl (by decide) rfl dX5_init_75 ⟨Nat.le_of_ble_eq_true rfl, Nat.le_of_ble_eq_true rfl⟩ ?_
  refine n_put (es' := [.inr (5, [.ref (b + 1), .ref (b + 2), .ref (b + 3), .ref (b + 4), vI 0, .ref (b + 5), .ref (b + 6), .ref (b + 7), vI 0, .ref (b + 8), vI 0, .ref (b + 9), vI 0]), ia G 763 (fun _ => 0), ia G 763 (fun _ => 0), ia G 763 (fun _ => 0), ia G 4578 (fun _ => 0), ia G 1526 (fun _ => 0), ia G 2 (fun _ => 0), ia G 80 (fun _ => 0), ia G 40 (fun _ => 0), ia G 40 (fun _ => 0)]) (ty := .array (.int)) hC hK hF (fun _ h => h) (i := 0) rfl rfl q_w_X5 tyX5_ok nmX5 11 (by decide) q_f_X5_34 (by first | exact Or.inl rfl | exact Or.inr ⟨rfl, hnm, rfl⟩) (by decide +kernel) rfl rfl (Nat.le_of_ble_eq_true rfl) rfl dX5_init_77 ?_
  refine s_aload_n hC dX5_init_80 rfl 0 rfl ?_
  refine s_I (I' := JC G (layModel G b) 10 b F (fun _ _ => 0)) (fun H h => h) ?_
  refine s_get hC hK ((JC.wd hF).1 _) (by decide) o_Model rfl q_w_X5 0 (by decide) q_f_X5_7 rfl dX5_init_81 ?_
  refine s_iconst hC dX5_init_84 ?_
  refine s_bipush hC dX5_init_85 (by decide) ?_
  refine s_iastore hC hK (JC.wd hF) (fun _ h => h.1) rg_0 (inR_c _ rfl) (by decide) a_Model_1 dX5_init_87 (fun σ1 hσ1 => ?_)
  refine s_aload_n hC dX5_init_88 rfl 0 rfl ?_
  refine s_get hC hK ((JC.wd hF).1 _) (by decide) o_Model rfl q_w_X5 0 (by decide) q_f_X5_7 rfl dX5_init_89 ?_
  refine s_iconst hC dX5_init_92 ?_
  refine s_bipush hC dX5_init_93 (by decide) ?_
  refine s_iastore hC hK (JC.wd hF) (fun _ h => h.1) hσ1 (inR_c _ rfl) (by decide) a_Model_1 dX5_init_95 (fun σ2 hσ2 => ?_)
  exact s_vret hC hr dX5_init_96 (fun H hH => ⟨rfl, hσ2, hH⟩)
end
