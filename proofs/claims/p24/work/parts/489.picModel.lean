/-! THE REFERENCE as plain arithmetic: a middle term; its class is not in this claim's code *)  -/
def f_X5_moves_L3 (i1 : Nat) (n1 : Nat) (a2 : Int) (i3 : Nat) (n3 : Nat) (a4 : Int) : Nat → Int → Blk → Option (Blk)
  | 0, _, _ => none
  | n + 1, x1, σ2 =>
    if 763 ≤ x1 then (
      some σ2) else (
      Option.bind (ld σ2 i1 n1 (a2 + x1)) fun v3 =>
      Option.bind (sw σ2 i3 n3 (a4 + x1) v3) fun σ4 =>
      Option.bind (ck (x1 + 1)) fun v5 =>
      f_X5_moves_L3 i1 n1 a2 i3 n3 a4 n v5 σ4)
def f_X5_moves (σ : Blk) (i1 n1 : Nat) (a2 : Int) (i3 n3 : Nat) (a4 : Int) : Option (Blk) :=
  f_X5_moves_L3 i1 n1 a2 i3 n3 a4 fu 0 σ
def f_X5_within (a1 : Int) (a2 : Int) (a3 : Int) : Option (Int) :=
  if a1 < a2 then (
    some 0) else (
    if a3 < a1 then (
      some 0) else (
      some 1))
def f_X5_record_L11 (j7 : Blk → Option (Blk)) : Nat → Int → Blk → Option (Blk)
  | 0, _, _ => none
  | n + 1, x11, σ12 =>
    if 3815 ≤ x11 then (
      j7 σ12) else (
      Option.bind (ld σ12 4 4578 (x11 + 763)) fun v13 =>
      Option.bind (sw σ12 4 4578 x11 v13) fun σ14 =>
      Option.bind (ck (x11 + 1)) fun v15 =>
      f_X5_record_L11 j7 n v15 σ14)
def f_X5_record (σ : Blk) (i1 n1 : Nat) : Option (Blk) :=
  jp (fun (σ2 : Blk) => 
    Option.bind (ck ((σ2 0 4) * 763)) fun v3 =>
    Option.bind (f_X5_moves σ2 i1 n1 0 4 4578 v3) fun σ4 =>
    Option.bind (ck ((σ4 0 4) + 1)) fun v5 =>
    pf σ4 0 4 v5 fun σ6 =>
    some σ6) fun j1 =>
  if σ 0 4 ≠ 6 then (
    j1 σ) else (
    jp (fun (σ8 : Blk) => 
      Option.bind (ck ((σ8 0 4) - 1)) fun v9 =>
      pf σ8 0 4 v9 fun σ10 =>
      j1 σ10) fun j7 =>
    f_X5_record_L11 j7 fu 0 σ)
def f_X5_kindOf (a1 : Int) : Option (Int) :=
  some (iand a1 3)
def f_X5_rowOf (a1 : Int) : Option (Int) :=
  some (iand (ishr a1 2) 31)
def f_X5_numberOf (a1 : Int) : Option (Int) :=
  some (iand (ishr a1 7) 63)
def f_X5_lettersOf (a1 : Int) : Option (Int) :=
  some (ishr a1 13)
def f_X5_thing (a1 : Int) (a2 : Int) (a3 : Int) (a4 : Int) : Option (Int) :=
  Option.bind (ck (((a1 + (4 * a2)) + (128 * a3)) + (8192 * a4))) fun v1 =>
  some v1
def f_X5_cellsOf (a1 : Int) : Option (Int) :=
  Option.bind (f_X5_kindOf a1) fun r1 =>
  if r1 = 1 then (
    Option.bind (f_X5_lettersOf a1) fun r2 =>
    Option.bind (ck (2 + r2)) fun v3 =>
    some v3) else
  if r1 = 2 then (
    Option.bind (f_X5_lettersOf a1) fun r4 =>
    Option.bind (ck (1 + r4)) fun v5 =>
    some v5) else
  if r1 = 3 then (
    some 1) else
  some 0
def f_X5_freeOf_L5 (σ : Blk) (a1 : Int) : Nat → Int → Int → Option (Int)
  | 0, _, _ => none
  | n + 1, x1, x2 =>
    if 40 ≤ x2 then (
      some x1) else (
      Option.bind (ld σ 1 763 ((363 + (40 * a1)) + x2)) fun v3 =>
      Option.bind (f_X5_cellsOf v3) fun r4 =>
      Option.bind (ck (x1 - r4)) fun v5 =>
      Option.bind (ck (x2 + 1)) fun v6 =>
      f_X5_freeOf_L5 σ a1 n v5 v6)
def f_X5_freeOf (σ : Blk) (a1 : Int) : Option (Int) :=
  f_X5_freeOf_L5 σ a1 fu 40 0
def f_X5_slotsOf_L4 (σ : Blk) (a1 : Int) : Nat → Int → Int → Option (Int)
  | 0, _, _ => none
  | n + 1, x1, x2 =>
    if 40 ≤ x2 then (
      some x1) else (
      Option.bind (ld σ 1 763 ((363 + (40 * a1)) + x2)) fun v3 =>
      jp (fun (x5 : Int) => 
        Option.bind (ck (x2 + 1)) fun v6 =>
        f_X5_slotsOf_L4 σ a1 n x5 v6) fun j4 =>
      if v3 = 0 then (
        j4 x1) else (
        Option.bind (ck (x2 + 1)) fun v7 =>
        j4 v7))
def f_X5_slotsOf (σ : Blk) (a1 : Int) : Option (Int) :=
  f_X5_slotsOf_L4 σ a1 fu 0 0
def f_X5_thingsOn_L5 (σ : Blk) (a1 : Int) (a2 : Int) : Nat → Int → Int → Option (Int)
  | 0, _, _ => none
  | n + 1, x1, x2 =>
    if 40 ≤ x2 then (
      some x1) else (
      Option.bind (ld σ 1 763 ((363 + (40 * a1)) + x2)) fun v3 =>
      jp (fun (x5 : Int) => 
        Option.bind (ck (x1 + x5)) fun v6 =>
        Option.bind (ck (x2 + 1)) fun v7 =>
        f_X5_thingsOn_L5 σ a1 a2 n v6 v7) fun j4 =>
      if v3 = 0 then (
        j4 0) else (
        if a2 = 0 then (
          j4 1) else (
          Option.bind (f_X5_kindOf v3) fun r8 =>
          if r8 ≠ a2 then (
            j4 0) else (
            j4 1))))
def f_X5_thingsOn (σ : Blk) (a1 : Int) (a2 : Int) : Option (Int) :=
  f_X5_thingsOn_L5 σ a1 a2 fu 0 0
def f_X5_lowestEmpty_L6 (σ : Blk) (a1 : Int) : Nat → Int → Int → Option (Int)
  | 0, _, _ => none
  | n + 1, x1, x2 =>
    if x2 < 0 then (
      some x1) else (
      Option.bind (ld σ 1 763 ((363 + (40 * a1)) + x2)) fun v3 =>
      jp (fun (x5 : Int) => 
        Option.bind (ck (x2 + (-1))) fun v6 =>
        f_X5_lowestEmpty_L6 σ a1 n x5 v6) fun j4 =>
      if v3 ≠ 0 then (
        j4 x1) else (
        j4 x2))
def f_X5_lowestEmpty (σ : Blk) (a1 : Int) : Option (Int) :=
  f_X5_lowestEmpty_L6 σ a1 fu ((-6)) 39
def f_X5_placed_L2 (σ : Blk) (a1 : Int) : Nat → Int → Option (Int × Blk)
  | 0, _ => none
  | n + 1, x1 =>
    if 10 ≤ x1 then (
      some ((-6), σ)) else (
      Option.bind (f_X5_freeOf σ x1) fun r2 =>
      Option.bind (f_X5_cellsOf a1) fun r3 =>
      if r2 < r3 then (
        Option.bind (ck (x1 + 1)) fun v4 =>
        f_X5_placed_L2 σ a1 n v4) else (
        Option.bind (f_X5_lowestEmpty σ x1) fun r5 =>
        Option.bind (ck ((40 * x1) + r5)) fun v6 =>
        Option.bind (sw σ 1 763 (363 + v6) a1) fun σ7 =>
        some (v6, σ7)))
def f_X5_placed (σ : Blk) (a1 : Int) : Option (Int × Blk) :=
  f_X5_placed_L2 σ a1 fu 0
def f_X5_part (σ : Blk) (a1 : Int) (a2 : Int) : Option (Int) :=
  Option.bind (ld σ 1 763 ((3 + (12 * a1)) + a2)) fun v1 =>
  some v1
def f_X5_setPart (σ : Blk) (a1 : Int) (a2 : Int) (a3 : Int) : Option (Blk) :=
  Option.bind (sw σ 1 763 ((3 + (12 * a1)) + a2) a3) fun σ1 =>
  some σ1
def f_X5_rowWith_L5 (σ : Blk) (a1 : Int) : Nat → Int → Int → Option (Int)
  | 0, _, _ => none
  | n + 1, x1, x2 =>
    if 30 ≤ x2 then (
      some x1) else (
      Option.bind (f_X5_part σ x2 0) fun r3 =>
      jp (fun (x5 : Int) => 
        Option.bind (ck (x2 + 1)) fun v6 =>
        f_X5_rowWith_L5 σ a1 n x5 v6) fun j4 =>
      if r3 ≠ 1 then (
        j4 x1) else (
        Option.bind (f_X5_part σ x2 1) fun r7 =>
        if r7 ≠ a1 then (
          j4 x1) else (
          j4 x2)))
def f_X5_rowWith (σ : Blk) (a1 : Int) : Option (Int) :=
  f_X5_rowWith_L5 σ a1 fu ((-6)) 0
def f_X5_letterAt (σ : Blk) (a1 : Int) (a2 : Int) : Option (Int) :=
  Option.bind (dv a2 6) fun v1 =>
  Option.bind (ck (5 + v1)) fun v2 =>
  Option.bind (f_X5_part σ a1 v2) fun r3 =>
  Option.bind (rm_ a2 6) fun v4 =>
  some (iand (ishr r3 (5 * v4)) 31)
def f_X5_hasMoved (σ : Blk) (a1 : Int) : Option (Int) :=
  Option.bind (f_X5_part σ a1 3) fun r1 =>
  Option.bind (f_X5_part σ a1 4) fun r2 =>
  if r1 = r2 then (
    some 0) else (
    some 1)
def f_X5_findPieces_L7 (a1 : Int) : Nat → Int → Blk → Option (Blk)
  | 0, _, _ => none
  | n + 1, x2, σ3 =>
    if 400 ≤ x2 then (
      some σ3) else (
      Option.bind (ld σ3 1 763 (363 + x2)) fun v4 =>
      Option.bind (f_X5_kindOf v4) fun r5 =>
      jp (fun (σ7 : Blk) => 
        Option.bind (ck (x2 + 1)) fun v8 =>
        f_X5_findPieces_L7 a1 n v8 σ7) fun j6 =>
      if r5 ≠ 2 then (
        j6 σ3) else (
        Option.bind (f_X5_rowOf v4) fun r9 =>
        if r9 ≠ a1 then (
          j6 σ3) else (
          Option.bind (f_X5_numberOf v4) fun r10 =>
          Option.bind (sw σ3 9 40 r10 x2) fun σ11 =>
          Option.bind (ck ((σ11 0 12) + 1)) fun v12 =>
          pf σ11 0 12 v12 fun σ13 =>
          j6 σ13)))
def f_X5_findPieces (σ : Blk) (a1 : Int) : Option (Blk) :=
  pf σ 0 12 0 fun σ1 =>
  f_X5_findPieces_L7 a1 fu 0 σ1
def f_X5_dropPieces_L7  : Nat → Int → Blk → Option (Blk)
  | 0, _, _ => none
  | n + 1, x2, σ3 =>
    if σ3 0 12 ≤ x2 then (
      some σ3) else (
      Option.bind (ld σ3 9 40 x2) fun v4 =>
      Option.bind (sw σ3 1 763 (363 + v4) 0) fun σ5 =>
      Option.bind (ck (x2 + 1)) fun v6 =>
      f_X5_dropPieces_L7 n v6 σ5)
def f_X5_dropPieces (σ : Blk) (a1 : Int) : Option (Blk) :=
  Option.bind (f_X5_findPieces σ a1) fun σ1 =>
  f_X5_dropPieces_L7 fu 0 σ1
def f_X5_headOf (σ : Blk) (a1 : Int) : Option (Int) :=
  Option.bind (f_X5_part σ a1 4) fun r1 =>
  Option.bind (ld σ 1 763 (363 + r1)) fun v2 =>
  some v2
def f_X5_costOf_L20 (a1 : Int) (σ1 : Blk) : Nat → Int → Int → Int → Option (Int × Blk)
  | 0, _, _, _ => none
  | n + 1, x4, x5, x6 =>
    if σ1 0 12 ≤ x6 then (
      some (x5, σ1)) else (
      jp (fun (x8 : Int) => 
        Option.bind (dv x8 40) fun v9 =>
        jp (fun (x11 : Int) => 
          Option.bind (ck (x5 + x11)) fun v12 =>
          Option.bind (ck (x6 + 1)) fun v13 =>
          f_X5_costOf_L20 a1 σ1 n v9 v12 v13) fun j10 =>
        if v9 ≠ x4 then (
          j10 1) else (
          j10 0)) fun j7 =>
      if 0 ≤ x6 then (
        Option.bind (ld σ1 9 40 x6) fun v14 =>
        j7 v14) else (
        Option.bind (f_X5_part σ1 a1 4) fun r15 =>
        j7 r15))
def f_X5_costOf (σ : Blk) (a1 : Int) : Option (Int × Blk) :=
  Option.bind (f_X5_findPieces σ a1) fun σ1 =>
  Option.bind (f_X5_part σ1 a1 3) fun r2 =>
  Option.bind (dv r2 40) fun v3 =>
  f_X5_costOf_L20 a1 σ1 fu v3 1 ((-1))
def f_X5_cellsOfRow_L30 (σ1 : Blk) : Nat → Int → Int → Option (Int × Blk)
  | 0, _, _ => none
  | n + 1, x8, x9 =>
    if σ1 0 12 ≤ x9 then (
      some (x8, σ1)) else (
      Option.bind (ld σ1 9 40 x9) fun v10 =>
      Option.bind (ld σ1 1 763 (363 + v10)) fun v11 =>
      Option.bind (f_X5_cellsOf v11) fun r12 =>
      Option.bind (ck (x8 + r12)) fun v13 =>
      Option.bind (ck (x9 + 1)) fun v14 =>
      f_X5_cellsOfRow_L30 σ1 n v13 v14)
def f_X5_cellsOfRow (σ : Blk) (a1 : Int) : Option (Int × Blk) :=
  Option.bind (f_X5_findPieces σ a1) fun σ1 =>
  Option.bind (f_X5_headOf σ1 a1) fun r2 =>
  Option.bind (f_X5_cellsOf r2) fun r3 =>
  Option.bind (f_X5_hasMoved σ1 a1) fun r4 =>
  jp (fun (x6 : Int) => 
    Option.bind (ck (r3 + x6)) fun v7 =>
    f_X5_cellsOfRow_L30 σ1 fu v7 0) fun j5 =>
  if r4 = 0 then (
    j5 0) else (
    j5 1)
def f_X5_takeText_L12 (a1 : Int) : Nat → Int → Blk → Option (Blk)
  | 0, _, _ => none
  | n + 1, x3, σ4 =>
    if σ4 0 10 ≤ x3 then (
      some σ4) else (
      Option.bind (f_X5_letterAt σ4 a1 x3) fun r5 =>
      Option.bind (sw σ4 8 40 x3 r5) fun σ6 =>
      Option.bind (ck (x3 + 1)) fun v7 =>
      f_X5_takeText_L12 a1 n v7 σ6)
def f_X5_takeText (σ : Blk) (a1 : Int) : Option (Blk) :=
  Option.bind (f_X5_part σ a1 2) fun r1 =>
  pf σ 0 10 r1 fun σ2 =>
  f_X5_takeText_L12 a1 fu 0 σ2
def f_X5_headLetters (σ : Blk)  : Option (Int) :=
  Option.bind (ld σ 1 763 0) fun v1 =>
  if v1 ≤ σ 0 10 then (
    Option.bind (ld σ 1 763 0) fun v2 =>
    some v2) else (
    some (σ 0 10))
def f_X5_setText_L35 (a1 : Int) : Nat → Int → Blk → Option (Blk)
  | 0, _, _ => none
  | n + 1, x4, σ5 =>
    if σ5 0 10 ≤ x4 then (
      some σ5) else (
      Option.bind (dv x4 6) fun v6 =>
      Option.bind (dv x4 6) fun v7 =>
      Option.bind (ck (5 + v7)) fun v8 =>
      Option.bind (f_X5_part σ5 a1 v8) fun r9 =>
      Option.bind (ld σ5 8 40 x4) fun v10 =>
      Option.bind (rm_ x4 6) fun v11 =>
      Option.bind (ck (5 + v6)) fun v12 =>
      Option.bind (f_X5_setPart σ5 a1 v12 (iorr r9 (ishl v10 (5 * v11)))) fun σ13 =>
      Option.bind (ck (x4 + 1)) fun v14 =>
      f_X5_setText_L35 a1 n v14 σ13)
def f_X5_setText_L12 (a1 : Int) (j2 : Blk → Option (Blk)) : Nat → Int → Blk → Option (Blk)
  | 0, _, _ => none
  | n + 1, x15, σ16 =>
    if 7 ≤ x15 then (
      j2 σ16) else (
      Option.bind (ck (5 + x15)) fun v17 =>
      Option.bind (f_X5_setPart σ16 a1 v17 0) fun σ18 =>
      Option.bind (ck (x15 + 1)) fun v19 =>
      f_X5_setText_L12 a1 j2 n v19 σ18)
def f_X5_setText (σ : Blk) (a1 : Int) : Option (Blk) :=
  Option.bind (f_X5_setPart σ a1 2 (σ 0 10)) fun σ1 =>
  jp (fun (σ3 : Blk) => 
    f_X5_setText_L35 a1 fu 0 σ3) fun j2 =>
  f_X5_setText_L12 a1 j2 fu 0 σ1
def f_X5_putPieces_L7 (a1 : Int) : Nat → Int → Int → Blk → Option (Int × Blk)
  | 0, _, _, _ => none
  | n + 1, x2, x3, σ4 =>
    if σ4 0 10 ≤ x2 then (
      some (1, σ4)) else (
      Option.bind (ld σ4 1 763 1) fun v5 =>
      Option.bind (ck ((σ4 0 10) - x2)) fun v6 =>
      jp (fun (x8 : Int) => 
        Option.bind (f_X5_thing 2 a1 x3 x8) fun r9 =>
        bd2 (f_X5_placed σ4 r9) fun r10 σ11 =>
        if r10 ≠ (-6) then (
          Option.bind (ck (x2 + x8)) fun v12 =>
          Option.bind (ck (x3 + 1)) fun v13 =>
          f_X5_putPieces_L7 a1 n v12 v13 σ11) else (
          some (0, σ11))) fun j7 =>
      if v5 ≤ v6 then (
        Option.bind (ld σ4 1 763 1) fun v14 =>
        j7 v14) else (
        Option.bind (ck ((σ4 0 10) - x2)) fun v15 =>
        j7 v15))
def f_X5_putPieces (σ : Blk) (a1 : Int) : Option (Int × Blk) :=
  Option.bind (f_X5_headLetters σ) fun r1 =>
  f_X5_putPieces_L7 a1 fu r1 0 σ
def f_X5_writeNew (σ : Blk) (a1 : Int) : Option (Int × Blk) :=
  Option.bind (f_X5_headLetters σ) fun r1 =>
  Option.bind (f_X5_thing 1 a1 0 r1) fun r2 =>
  bd2 (f_X5_placed σ r2) fun r3 σ4 =>
  Option.bind (f_X5_setPart σ4 a1 3 r3) fun σ5 =>
  Option.bind (f_X5_setPart σ5 a1 4 r3) fun σ6 =>
  Option.bind (f_X5_setText σ6 a1) fun σ7 =>
  if r3 = (-6) then (
    some (0, σ7)) else (
    bd2 (f_X5_putPieces σ7 a1) fun r8 σ9 =>
    if r8 = 0 then (
      some (0, σ9)) else (
      some (1, σ9)))
def f_X5_placeForHead (σ : Blk) (a1 : Int) (a2 : Int) : Option (Int × Blk) :=
  Option.bind (f_X5_part σ a1 4) fun r1 =>
  Option.bind (f_X5_part σ a1 3) fun r2 =>
  Option.bind (dv r1 40) fun v3 =>
  Option.bind (f_X5_freeOf σ v3) fun r4 =>
  Option.bind (f_X5_cellsOf a2) fun r5 =>
  if r4 < r5 then (
    jp (fun (σ7 : Blk) => 
      bd2 (f_X5_placed σ7 a2) fun r8 σ9 =>
      some (r8, σ9)) fun j6 =>
    if r1 ≠ r2 then (
      Option.bind (dv r2 40) fun v10 =>
      Option.bind (f_X5_freeOf σ v10) fun r11 =>
      Option.bind (f_X5_cellsOf a2) fun r12 =>
      Option.bind (ck (r11 + 1)) fun v13 =>
      if v13 < r12 then (
        j6 σ) else (
        some (r2, σ))) else (
      Option.bind (f_X5_thing 3 a1 0 0) fun r14 =>
      Option.bind (sw σ 1 763 (363 + r2) r14) fun σ15 =>
      j6 σ15)) else (
    some (r1, σ))
def f_X5_writeAgain (σ : Blk) (a1 : Int) : Option (Int × Blk) :=
  Option.bind (f_X5_headLetters σ) fun r1 =>
  Option.bind (f_X5_thing 1 a1 0 r1) fun r2 =>
  Option.bind (f_X5_dropPieces σ a1) fun σ3 =>
  Option.bind (f_X5_part σ3 a1 4) fun r4 =>
  Option.bind (sw σ3 1 763 (363 + r4) 0) fun σ5 =>
  bd2 (f_X5_placeForHead σ5 a1 r2) fun r6 σ7 =>
  if r6 ≠ (-6) then (
    Option.bind (sw σ7 1 763 (363 + r6) r2) fun σ8 =>
    Option.bind (f_X5_setPart σ8 a1 4 r6) fun σ9 =>
    Option.bind (f_X5_setText σ9 a1) fun σ10 =>
    bd2 (f_X5_putPieces σ10 a1) fun r11 σ12 =>
    Option.bind (ckB r11) fun _ =>
    some (r11, σ12)) else (
    some (0, σ7))
def f_X5_freeRow_L6 (σ : Blk) : Nat → Int → Int → Option (Int)
  | 0, _, _ => none
  | n + 1, x1, x2 =>
    if x2 < 0 then (
      some x1) else (
      Option.bind (f_X5_part σ x2 0) fun r3 =>
      jp (fun (x5 : Int) => 
        Option.bind (ck (x2 + (-1))) fun v6 =>
        f_X5_freeRow_L6 σ n x5 v6) fun j4 =>
      if r3 ≠ 0 then (
        j4 x1) else (
        j4 x2))
def f_X5_freeRow (σ : Blk)  : Option (Int) :=
  f_X5_freeRow_L6 σ fu ((-6)) 29
def f_X5_writes (σ : Blk) (a1 : Int) : Option (Int × Blk) :=
  Option.bind (f_X5_rowWith σ a1) fun r1 =>
  jp (
    Option.bind (f_X5_moves σ 1 763 0 3 763 0) fun σ3 =>
    jp (fun (x5 : Int) (σ6 : Blk) => 
      if x5 ≠ 0 then (
        Option.bind (ckB x5) fun _ =>
        some (x5, σ6)) else (
        Option.bind (f_X5_moves σ6 3 763 0 1 763 0) fun σ8 =>
        Option.bind (ckB x5) fun _ =>
        some (x5, σ8))) fun j4 =>
    if r1 ≠ (-6) then (
      bd2 (f_X5_writeAgain σ3 r1) fun r10 σ11 =>
      j4 r10 σ11) else (
      Option.bind (f_X5_freeRow σ3) fun r12 =>
      Option.bind (f_X5_setPart σ3 r12 0 1) fun σ13 =>
      Option.bind (f_X5_setPart σ13 r12 1 a1) fun σ14 =>
      Option.bind (ld σ14 1 763 2) fun v15 =>
      Option.bind (ck (v15 + 1)) fun v16 =>
      Option.bind (sw σ14 1 763 2 v16) fun σ17 =>
      bd2 (f_X5_writeNew σ17 r12) fun r18 σ19 =>
      j4 r18 σ19)) fun j2 =>
  if r1 ≠ (-6) then (
    j2) else (
    Option.bind (ld σ 1 763 2) fun v20 =>
    if v20 ≠ 30 then (
      j2) else (
      some (0, σ)))
def f_X5_isValue (a1 : Int) (a2 : Int) : Option (Int) :=
  if a1 ≠ 0 then (
    if a1 ≠ 1 then (
      some 0) else (
      Option.bind (f_X5_within a2 1 12) fun r1 =>
      if r1 = 0 then (
        some 0) else (
        some 1))) else (
    Option.bind (f_X5_within a2 0 16) fun r2 =>
    Option.bind (ckB r2) fun _ =>
    some r2)
def f_X5_set (σ : Blk) (a1 : Int) (a2 : Int) : Option (Int × Blk) :=
  Option.bind (f_X5_isValue a1 a2) fun r1 =>
  if r1 ≠ 0 then (
    Option.bind (f_X5_record σ 1 763) fun σ2 =>
    Option.bind (ld σ2 1 763 a1) fun v3 =>
    Option.bind (sw σ2 1 763 a1 a2) fun σ4 =>
    some (v3, σ4)) else (
    some ((-2), σ))
def f_X5_findFault_L8 (σ : Blk) (j1 : Int → Option (Int)) : Nat → Int → Int → Int → Option (Int)
  | 0, _, _, _ => none
  | n + 1, x3, x4, x5 =>
    if σ 0 8 ≤ x5 then (
      j1 x4) else (
      Option.bind (ld σ 7 80 x5) fun v6 =>
      Option.bind (f_X5_within v6 48 57) fun r7 =>
      jp (fun (x9 : Int) => 
        jp (fun (x11 : Int) => 
          Option.bind (f_X5_within v6 97 122) fun r12 =>
          jp (fun (x14 : Int) => 
            jp (fun (x16 : Int) => 
              jp (
                jp (fun (x19 : Int) => 
                  jp (fun (x21 : Int) => 
                    Option.bind (ck (x5 + 1)) fun v22 =>
                    f_X5_findFault_L8 σ j1 n x19 x21 v22) fun j20 =>
                  if x16 = 0 then (
                    if x11 = 0 then (
                      if x14 = 0 then (
                        j20 x4) else (
                        Option.bind (ck (x4 + 1)) fun v23 =>
                        j20 v23)) else (
                      j20 0)) else (
                    j20 ((-6)))) fun j18 =>
                if x16 = 0 then (
                  if x9 ≠ 0 then (
                    if x3 ≠ (-6) then (
                      Option.bind (ck (((10 * x3) + v6) - 48)) fun v24 =>
                      j18 v24) else (
                      Option.bind (ck (v6 - 48)) fun v25 =>
                      j18 v25)) else (
                    j18 x3)) else (
                  j18 ((-6)))) fun j17 =>
              if x9 ≠ 0 then (
                j17) else (
                if x11 ≠ 0 then (
                  j17) else (
                  if x14 ≠ 0 then (
                    j17) else (
                    if x16 ≠ 0 then (
                      j17) else (
                      some x5))))) fun j15 =>
            if v6 ≠ 59 then (
              j15 0) else (
              if x4 = (-6) then (
                j15 0) else (
                j15 1))) fun j13 =>
          if r12 = 0 then (
            j13 0) else (
            if x4 = (-6) then (
              j13 0) else (
              if 40 ≤ x4 then (
                j13 0) else (
                j13 1)))) fun j10 =>
        if v6 ≠ 61 then (
          j10 0) else (
          if x4 ≠ (-6) then (
            j10 0) else (
            if x3 = (-6) then (
              j10 0) else (
              j10 1)))) fun j8 =>
      if r7 = 0 then (
        j8 0) else (
        if x4 ≠ (-6) then (
          j8 0) else (
          if x3 = (-6) then (
            j8 1) else (
            if x3 ≤ 0 then (
              j8 0) else (
              if 10 ≤ x3 then (
                j8 0) else (
                j8 1))))))
def f_X5_findFault (σ : Blk)  : Option (Int) :=
  jp (fun (x2 : Int) => 
    if x2 ≠ (-6) then (
      some ((-6))) else (
      some (σ 0 8))) fun j1 =>
  f_X5_findFault_L8 σ j1 fu ((-6)) ((-6)) 0
def f_X5_write_L83 (j16 : Int → Blk → Option (Int × Blk)) : Nat → Int → Blk → Option (Int × Blk)
  | 0, _, _ => none
  | n + 1, x25, σ26 =>
    if σ26 0 8 ≤ x25 then (
      j16 x25 σ26) else (
      Option.bind (ld σ26 7 80 x25) fun v27 =>
      if v27 = 59 then (
        j16 x25 σ26) else (
        Option.bind (ld σ26 7 80 x25) fun v28 =>
        Option.bind (ck (v28 - 97)) fun v29 =>
        Option.bind (sw σ26 8 40 (σ26 0 10) v29) fun σ30 =>
        Option.bind (ck ((σ30 0 10) + 1)) fun v31 =>
        pf σ30 0 10 v31 fun σ32 =>
        Option.bind (ck (x25 + 1)) fun v33 =>
        f_X5_write_L83 j16 n v33 σ32))
def f_X5_write_L41 (σ10 : Blk) (j11 : Int → Int → Option (Int × Blk)) : Nat → Int → Int → Option (Int × Blk)
  | 0, _, _ => none
  | n + 1, x34, x35 =>
    Option.bind (ld σ10 7 80 x34) fun v36 =>
    if v36 = 61 then (
      j11 x34 x35) else (
      Option.bind (ld σ10 7 80 x34) fun v37 =>
      Option.bind (ck (((10 * x35) + v37) - 48)) fun v38 =>
      Option.bind (ck (x34 + 1)) fun v39 =>
      f_X5_write_L41 σ10 j11 n v39 v38)
def f_X5_write_L26 (j3 : Int → Blk → Option (Int × Blk)) : Nat → Int → Int → Int → Blk → Option (Int × Blk)
  | 0, _, _, _, _ => none
  | n + 1, x7, x8, x9, σ10 =>
    if x9 = 0 then (
      j3 x7 σ10) else (
      if σ10 0 8 ≤ x8 then (
        j3 x7 σ10) else (
        jp (fun (x12 : Int) (x13 : Int) => 
          Option.bind (ck (x12 + 1)) fun v14 =>
          pf σ10 0 10 0 fun σ15 =>
          jp (fun (x17 : Int) (σ18 : Blk) => 
            Option.bind (ck (x17 + 1)) fun v19 =>
            bd2 (f_X5_writes σ18 x13) fun r20 σ21 =>
            jp (fun (x23 : Int) => 
              Option.bind (ck (x7 + x23)) fun v24 =>
              f_X5_write_L26 j3 n v24 v19 r20 σ21) fun j22 =>
            if r20 = 0 then (
              j22 0) else (
              j22 1)) fun j16 =>
          f_X5_write_L83 j16 fu v14 σ15) fun j11 =>
        f_X5_write_L41 σ10 j11 fu x8 0))
def f_X5_write (σ : Blk)  : Option (Int × Blk) :=
  Option.bind (f_X5_findFault σ) fun r1 =>
  if r1 = (-6) then (
    Option.bind (f_X5_record σ 1 763) fun σ2 =>
    jp (fun (x4 : Int) (σ5 : Blk) => 
      pf σ5 0 8 0 fun σ6 =>
      some (x4, σ6)) fun j3 =>
    f_X5_write_L26 j3 fu 0 0 1 σ2) else (
    some ((-3), σ))
def f_X5_append (σ : Blk) (a1 : Int) (a2 : Int) : Option (Int × Blk) :=
  Option.bind (f_X5_rowWith σ a1) fun r1 =>
  if r1 ≠ (-6) then (
    Option.bind (f_X5_within a2 0 25) fun r2 =>
    if r2 ≠ 0 then (
      Option.bind (f_X5_part σ r1 2) fun r3 =>
      if r3 ≠ 40 then (
        Option.bind (f_X5_moves σ 1 763 0 2 763 0) fun σ4 =>
        Option.bind (f_X5_takeText σ4 r1) fun σ5 =>
        Option.bind (sw σ5 8 40 (σ5 0 10) a2) fun σ6 =>
        Option.bind (ck ((σ6 0 10) + 1)) fun v7 =>
        pf σ6 0 10 v7 fun σ8 =>
        bd2 (f_X5_writes σ8 a1) fun r9 σ10 =>
        if r9 ≠ 0 then (
          Option.bind (f_X5_record σ10 2 763) fun σ11 =>
          some (σ11 0 10, σ11)) else (
          some ((-5), σ10))) else (
        some ((-4), σ))) else (
      some ((-2), σ))) else (
    some ((-1), σ))
def f_X5_delete_L68 (r1 : Int) (j10 : Blk → Option (Int × Blk)) : Nat → Int → Blk → Option (Int × Blk)
  | 0, _, _ => none
  | n + 1, x15, σ16 =>
    if 12 ≤ x15 then (
      j10 σ16) else (
      Option.bind (f_X5_setPart σ16 r1 x15 0) fun σ17 =>
      Option.bind (ck (x15 + 1)) fun v18 =>
      f_X5_delete_L68 r1 j10 n v18 σ17)
def f_X5_delete (σ : Blk) (a1 : Int) : Option (Int × Blk) :=
  Option.bind (f_X5_rowWith σ a1) fun r1 =>
  if r1 ≠ (-6) then (
    Option.bind (f_X5_record σ 1 763) fun σ2 =>
    bd2 (f_X5_cellsOfRow σ2 r1) fun r3 σ4 =>
    Option.bind (f_X5_dropPieces σ4 r1) fun σ5 =>
    Option.bind (f_X5_part σ5 r1 4) fun r6 =>
    Option.bind (sw σ5 1 763 (363 + r6) 0) fun σ7 =>
    Option.bind (f_X5_part σ7 r1 3) fun r8 =>
    Option.bind (sw σ7 1 763 (363 + r8) 0) fun σ9 =>
    jp (fun (σ11 : Blk) => 
      Option.bind (ld σ11 1 763 2) fun v12 =>
      Option.bind (ck (v12 - 1)) fun v13 =>
      Option.bind (sw σ11 1 763 2 v13) fun σ14 =>
      some (r3, σ14)) fun j10 =>
    f_X5_delete_L68 r1 j10 fu 0 σ9) else (
    some ((-1), σ))
def f_X5_keyAt_L4 (σ : Blk) : Nat → Int → Int → Option (Int)
  | 0, _, _ => none
  | n + 1, x1, x2 =>
    if 99 < x2 then (
      some ((-6))) else (
      Option.bind (f_X5_rowWith σ x2) fun r3 =>
      jp (fun (x5 : Int) => 
        Option.bind (ck (x2 + 1)) fun v6 =>
        f_X5_keyAt_L4 σ n x5 v6) fun j4 =>
      if r3 = (-6) then (
        j4 x1) else (
        if x1 ≠ 0 then (
          Option.bind (ck (x1 + (-1))) fun v7 =>
          j4 v7) else (
          some x2)))
def f_X5_keyAt (σ : Blk) (a1 : Int) : Option (Int) :=
  f_X5_keyAt_L4 σ fu a1 0
def f_X5_packs_L30  : Nat → Int → Int → Blk → Option (Int × Blk)
  | 0, _, _, _ => none
  | n + 1, x3, x4, σ5 =>
    Option.bind (ld σ5 1 763 2) fun v6 =>
    if v6 ≤ x4 then (
      Option.bind (ckB x3) fun _ =>
      some (x3, σ5)) else (
      if x3 = 0 then (
        Option.bind (ckB x3) fun _ =>
        some (x3, σ5)) else (
        Option.bind (f_X5_keyAt σ5 x4) fun r9 =>
        Option.bind (f_X5_rowWith σ5 r9) fun r10 =>
        Option.bind (f_X5_takeText σ5 r10) fun σ11 =>
        bd2 (f_X5_writeNew σ11 r10) fun r12 σ13 =>
        Option.bind (ck (x4 + 1)) fun v14 =>
        f_X5_packs_L30 n r12 v14 σ13))
def f_X5_packs_L2 (j1 : Blk → Option (Int × Blk)) : Nat → Int → Blk → Option (Int × Blk)
  | 0, _, _ => none
  | n + 1, x15, σ16 =>
    if 400 ≤ x15 then (
      j1 σ16) else (
      Option.bind (sw σ16 1 763 (363 + x15) 0) fun σ17 =>
      Option.bind (ck (x15 + 1)) fun v18 =>
      f_X5_packs_L2 j1 n v18 σ17)
def f_X5_packs (σ : Blk)  : Option (Int × Blk) :=
  jp (fun (σ2 : Blk) => 
    f_X5_packs_L30 fu 1 0 σ2) fun j1 =>
  f_X5_packs_L2 j1 fu 0 σ
def f_X5_pagesWith_L4 (σ : Blk) : Nat → Int → Int → Option (Int)
  | 0, _, _ => none
  | n + 1, x1, x2 =>
    if 10 ≤ x2 then (
      some x1) else (
      Option.bind (f_X5_slotsOf σ x2) fun r3 =>
      jp (fun (x5 : Int) => 
        Option.bind (ck (x1 + x5)) fun v6 =>
        Option.bind (ck (x2 + 1)) fun v7 =>
        f_X5_pagesWith_L4 σ n v6 v7) fun j4 =>
      if r3 ≤ 0 then (
        j4 0) else (
        j4 1))
def f_X5_pagesWith (σ : Blk)  : Option (Int) :=
  f_X5_pagesWith_L4 σ fu 0 0
def f_X5_pack (σ : Blk)  : Option (Int × Blk) :=
  Option.bind (f_X5_moves σ 1 763 0 2 763 0) fun σ1 =>
  bd2 (f_X5_packs σ1) fun r2 σ3 =>
  if r2 ≠ 0 then (
    Option.bind (f_X5_record σ3 2 763) fun σ4 =>
    Option.bind (f_X5_pagesWith σ4) fun r5 =>
    some (r5, σ4)) else (
    Option.bind (f_X5_moves σ3 2 763 0 1 763 0) fun σ6 =>
    some ((-5), σ6))
def f_X5_row (σ : Blk) (a1 : Int) (a2 : Int) : Option (Int × Blk) :=
  Option.bind (f_X5_rowWith σ a1) fun r1 =>
  if r1 ≠ (-6) then (
    if a2 = 0 then (
      Option.bind (f_X5_part σ r1 2) fun r2 =>
      some (r2, σ)) else
    if a2 = 1 then (
      Option.bind (f_X5_part σ r1 3) fun r3 =>
      Option.bind (dv r3 40) fun v4 =>
      some (v4, σ)) else
    if a2 = 2 then (
      Option.bind (f_X5_part σ r1 3) fun r5 =>
      Option.bind (rm_ r5 40) fun v6 =>
      some (v6, σ)) else
    if a2 = 3 then (
      Option.bind (f_X5_part σ r1 4) fun r7 =>
      Option.bind (dv r7 40) fun v8 =>
      some (v8, σ)) else
    if a2 = 4 then (
      Option.bind (f_X5_part σ r1 4) fun r9 =>
      Option.bind (rm_ r9 40) fun v10 =>
      some (v10, σ)) else
    if a2 = 5 then (
      Option.bind (f_X5_hasMoved σ r1) fun r11 =>
      if r11 = 0 then (
        some (0, σ)) else (
        some (1, σ))) else
    if a2 = 6 then (
      Option.bind (f_X5_headOf σ r1) fun r12 =>
      Option.bind (f_X5_lettersOf r12) fun r13 =>
      some (r13, σ)) else
    if a2 = 7 then (
      Option.bind (f_X5_findPieces σ r1) fun σ14 =>
      some (σ14 0 12, σ14)) else
    if a2 = 8 then (
      bd2 (f_X5_costOf σ r1) fun r15 σ16 =>
      some (r15, σ16)) else
    if a2 = 9 then (
      bd2 (f_X5_cellsOfRow σ r1) fun r17 σ18 =>
      some (r17, σ18)) else
    some ((-2), σ)) else (
    some ((-1), σ))
def f_X5_letter (σ : Blk) (a1 : Int) (a2 : Int) : Option (Int) :=
  Option.bind (f_X5_rowWith σ a1) fun r1 =>
  if r1 = (-6) then (
    some ((-1))) else (
    Option.bind (f_X5_part σ r1 2) fun r2 =>
    Option.bind (ck (r2 - 1)) fun v3 =>
    Option.bind (f_X5_within a2 0 v3) fun r4 =>
    if r4 = 0 then (
      some ((-1))) else (
      Option.bind (f_X5_letterAt σ r1 a2) fun r5 =>
      some r5))
def f_X5_piece (σ : Blk) (a1 : Int) (a2 : Int) (a3 : Int) : Option (Int × Blk) :=
  Option.bind (f_X5_rowWith σ a1) fun r1 =>
  if r1 ≠ (-6) then (
    Option.bind (f_X5_findPieces σ r1) fun σ2 =>
    Option.bind (ck ((σ2 0 12) - 1)) fun v3 =>
    Option.bind (f_X5_within a2 0 v3) fun r4 =>
    if r4 ≠ 0 then (
      if a3 = 0 then (
        Option.bind (ld σ2 9 40 a2) fun v5 =>
        Option.bind (dv v5 40) fun v6 =>
        some (v6, σ2)) else
      if a3 = 1 then (
        Option.bind (ld σ2 9 40 a2) fun v7 =>
        Option.bind (rm_ v7 40) fun v8 =>
        some (v8, σ2)) else
      if a3 = 2 then (
        Option.bind (ld σ2 9 40 a2) fun v9 =>
        Option.bind (ld σ2 1 763 (363 + v9)) fun v10 =>
        Option.bind (f_X5_lettersOf v10) fun r11 =>
        some (r11, σ2)) else
      some ((-2), σ2)) else (
      some ((-1), σ2))) else (
    some ((-1), σ))
def f_X5_page (σ : Blk) (a1 : Int) (a2 : Int) : Option (Int) :=
  Option.bind (f_X5_within a1 0 9) fun r1 =>
  if r1 ≠ 0 then (
    if a2 = 0 then (
      Option.bind (f_X5_freeOf σ a1) fun r2 =>
      some r2) else
    if a2 = 1 then (
      Option.bind (f_X5_slotsOf σ a1) fun r3 =>
      some r3) else
    if a2 = 2 then (
      Option.bind (f_X5_thingsOn σ a1 1) fun r4 =>
      some r4) else
    if a2 = 3 then (
      Option.bind (f_X5_thingsOn σ a1 2) fun r5 =>
      some r5) else
    if a2 = 4 then (
      Option.bind (f_X5_thingsOn σ a1 3) fun r6 =>
      some r6) else
    if a2 = 5 then (
      Option.bind (f_X5_slotsOf σ a1) fun r7 =>
      Option.bind (f_X5_thingsOn σ a1 0) fun r8 =>
      Option.bind (ck (r7 - r8)) fun v9 =>
      some v9) else
    some ((-2))) else (
    some ((-1)))
def f_X5_slot (σ : Blk) (a1 : Int) (a2 : Int) (a3 : Int) : Option (Int) :=
  Option.bind (f_X5_within a1 0 9) fun r1 =>
  if r1 = 0 then (
    some ((-1))) else (
    Option.bind (f_X5_slotsOf σ a1) fun r2 =>
    Option.bind (ck (r2 - 1)) fun v3 =>
    Option.bind (f_X5_within a2 0 v3) fun r4 =>
    if r4 ≠ 0 then (
      Option.bind (ld σ 1 763 ((363 + (40 * a1)) + a2)) fun v5 =>
      if a3 = 0 then (
        Option.bind (f_X5_kindOf v5) fun r6 =>
        some r6) else
      if a3 = 1 then (
        if v5 ≠ 0 then (
          Option.bind (f_X5_rowOf v5) fun r7 =>
          Option.bind (f_X5_part σ r7 1) fun r8 =>
          some r8) else (
          some ((-6)))) else
      if a3 = 2 then (
        Option.bind (f_X5_cellsOf v5) fun r9 =>
        some r9) else
      some ((-2))) else (
      some ((-1))))
def f_X5_thingsOf_L4 (σ : Blk) (a1 : Int) : Nat → Int → Int → Option (Int)
  | 0, _, _ => none
  | n + 1, x1, x2 =>
    if 10 ≤ x2 then (
      some x1) else (
      Option.bind (f_X5_thingsOn σ x2 a1) fun r3 =>
      Option.bind (ck (x1 + r3)) fun v4 =>
      Option.bind (ck (x2 + 1)) fun v5 =>
      f_X5_thingsOf_L4 σ a1 n v4 v5)
def f_X5_thingsOf (σ : Blk) (a1 : Int) : Option (Int) :=
  f_X5_thingsOf_L4 σ a1 fu 0 0
def f_X5_allFree_L4 (σ : Blk) : Nat → Int → Int → Option (Int)
  | 0, _, _ => none
  | n + 1, x1, x2 =>
    if 10 ≤ x2 then (
      some x1) else (
      Option.bind (f_X5_freeOf σ x2) fun r3 =>
      Option.bind (ck (x1 + r3)) fun v4 =>
      Option.bind (ck (x2 + 1)) fun v5 =>
      f_X5_allFree_L4 σ n v4 v5)
def f_X5_allFree (σ : Blk)  : Option (Int) :=
  f_X5_allFree_L4 σ fu 0 0
def f_X5_sumOfCosts_L4  : Nat → Int → Int → Blk → Option (Int × Blk)
  | 0, _, _, _ => none
  | n + 1, x1, x2, σ3 =>
    if 30 ≤ x2 then (
      some (x1, σ3)) else (
      Option.bind (f_X5_part σ3 x2 0) fun r4 =>
      jp (fun (x6 : Int) (σ7 : Blk) => 
        Option.bind (ck (x1 + x6)) fun v8 =>
        Option.bind (ck (x2 + 1)) fun v9 =>
        f_X5_sumOfCosts_L4 n v8 v9 σ7) fun j5 =>
      if r4 ≠ 1 then (
        j5 0 σ3) else (
        bd2 (f_X5_costOf σ3 x2) fun r10 σ11 =>
        j5 r10 σ11))
def f_X5_sumOfCosts (σ : Blk)  : Option (Int × Blk) :=
  f_X5_sumOfCosts_L4 fu 0 0 σ
def f_X5_greatestCost_L5  : Nat → Int → Int → Blk → Option (Int × Blk)
  | 0, _, _, _ => none
  | n + 1, x1, x2, σ3 =>
    if 30 ≤ x2 then (
      some (x1, σ3)) else (
      Option.bind (f_X5_part σ3 x2 0) fun r4 =>
      jp (fun (x6 : Int) (σ7 : Blk) => 
        Option.bind (ck (x2 + 1)) fun v8 =>
        f_X5_greatestCost_L5 n x6 v8 σ7) fun j5 =>
      if r4 ≠ 1 then (
        j5 x1 σ3) else (
        bd2 (f_X5_costOf σ3 x2) fun r9 σ10 =>
        if r9 ≤ x1 then (
          j5 x1 σ10) else (
          bd2 (f_X5_costOf σ10 x2) fun r11 σ12 =>
          j5 r11 σ12)))
def f_X5_greatestCost (σ : Blk)  : Option (Int × Blk) :=
  f_X5_greatestCost_L5 fu ((-6)) 0 σ
def f_X5_allLetters_L4 (σ : Blk) : Nat → Int → Int → Option (Int)
  | 0, _, _ => none
  | n + 1, x1, x2 =>
    if 30 ≤ x2 then (
      some x1) else (
      Option.bind (f_X5_part σ x2 2) fun r3 =>
      Option.bind (ck (x1 + r3)) fun v4 =>
      Option.bind (ck (x2 + 1)) fun v5 =>
      f_X5_allLetters_L4 σ n v4 v5)
def f_X5_allLetters (σ : Blk)  : Option (Int) :=
  f_X5_allLetters_L4 σ fu 0 0
def f_X5_count (σ : Blk) (a1 : Int) : Option (Int × Blk) :=
  if a1 = 0 then (
    Option.bind (ld σ 1 763 2) fun v1 =>
    some (v1, σ)) else
  if a1 = 1 then (
    Option.bind (f_X5_pagesWith σ) fun r2 =>
    some (r2, σ)) else
  if a1 = 2 then (
    Option.bind (f_X5_thingsOf σ 3) fun r3 =>
    some (r3, σ)) else
  if a1 = 3 then (
    Option.bind (f_X5_thingsOf σ 2) fun r4 =>
    some (r4, σ)) else
  if a1 = 4 then (
    Option.bind (f_X5_allFree σ) fun r5 =>
    some (r5, σ)) else
  if a1 = 5 then (
    bd2 (f_X5_sumOfCosts σ) fun r6 σ7 =>
    some (r6, σ7)) else
  if a1 = 6 then (
    Option.bind (f_X5_allLetters σ) fun r8 =>
    some (r8, σ)) else
  if a1 = 7 then (
    bd2 (f_X5_greatestCost σ) fun r9 σ10 =>
    some (r9, σ10)) else
  if a1 = 8 then (
    Option.bind (ld σ 1 763 (a1 - 8)) fun v11 =>
    some (v11, σ)) else
  if a1 = 9 then (
    Option.bind (ld σ 1 763 (a1 - 8)) fun v12 =>
    some (v12, σ)) else
  if a1 = 10 then (
    some (σ 0 8, σ)) else
  if a1 = 11 then (
    some (σ 0 4, σ)) else
  some ((-2), σ)
def f_X5_key (σ : Blk) (a1 : Int) : Option (Int) :=
  Option.bind (ld σ 1 763 2) fun v1 =>
  Option.bind (ck (v1 - 1)) fun v2 =>
  Option.bind (f_X5_within a1 0 v2) fun r3 =>
  if r3 = 0 then (
    some ((-1))) else (
    Option.bind (f_X5_keyAt σ a1) fun r4 =>
    some r4)
def f_X5_packedWith (σ : Blk) (a1 : Int) (a2 : Int) : Option (Int × Blk) :=
  Option.bind (f_X5_moves σ 1 763 0 2 763 0) fun σ1 =>
  Option.bind (sw σ1 1 763 0 a1) fun σ2 =>
  bd2 (f_X5_packs σ2) fun r3 σ4 =>
  jp (fun (x6 : Int) (σ7 : Blk) => 
    Option.bind (f_X5_moves σ7 2 763 0 1 763 0) fun σ8 =>
    some (x6, σ8)) fun j5 =>
  if r3 ≠ 0 then (
    if a2 ≠ 0 then (
      if a2 ≠ 1 then (
        Option.bind (f_X5_thingsOf σ4 2) fun r9 =>
        j5 r9 σ4) else (
        Option.bind (f_X5_pagesWith σ4) fun r10 =>
        j5 r10 σ4)) else (
      bd2 (f_X5_sumOfCosts σ4) fun r11 σ12 =>
      j5 r11 σ12)) else (
    j5 ((-5)) σ4)
def f_X5_ifPacked (σ : Blk) (a1 : Int) (a2 : Int) : Option (Int × Blk) :=
  Option.bind (f_X5_within a1 0 16) fun r1 =>
  if r1 = 0 then (
    some ((-2), σ)) else (
    Option.bind (f_X5_within a2 0 2) fun r2 =>
    if r2 = 0 then (
      some ((-2), σ)) else (
      bd2 (f_X5_packedWith σ a1 a2) fun r3 σ4 =>
      some (r3, σ4)))
def f_X5_bestHead_L7  : Nat → Int → Int → Int → Blk → Option (Int × Blk)
  | 0, _, _, _, _ => none
  | n + 1, x1, x2, x3, σ4 =>
    if 16 < x3 then (
      some (x1, σ4)) else (
      Option.bind (ld σ4 1 763 2) fun v5 =>
      if v5 ≤ 0 then (
        some (x1, σ4)) else (
        bd2 (f_X5_packedWith σ4 x3 0) fun r6 σ7 =>
        jp (fun (x9 : Int) => 
          jp (fun (x11 : Int) => 
            jp (fun (x13 : Int) => 
              Option.bind (ck (x3 + 2)) fun v14 =>
              f_X5_bestHead_L7 n x11 x13 v14 σ7) fun j12 =>
            if x9 = 0 then (
              j12 x2) else (
              j12 r6)) fun j10 =>
          if x9 = 0 then (
            j10 x1) else (
            j10 x3)) fun j8 =>
        if r6 = (-5) then (
          j8 0) else (
          if x1 = (-6) then (
            j8 1) else (
            if x2 ≤ r6 then (
              j8 0) else (
              j8 1)))))
def f_X5_bestHead (σ : Blk)  : Option (Int × Blk) :=
  f_X5_bestHead_L7 fu ((-6)) 0 0 σ
def f_X5_most_L16 (a1 : Int) : Nat → Int → Blk → Option (Int × Blk)
  | 0, _, _ => none
  | n + 1, x2, σ3 =>
    if x2 < 0 then (
      some ((-6), σ3)) else (
      Option.bind (f_X5_moves σ3 1 763 0 2 763 0) fun σ4 =>
      pf σ4 0 10 x2 fun σ5 =>
      bd2 (f_X5_writes σ5 a1) fun r6 σ7 =>
      Option.bind (f_X5_moves σ7 2 763 0 1 763 0) fun σ8 =>
      if r6 = 0 then (
        Option.bind (ck (x2 + (-1))) fun v9 =>
        f_X5_most_L16 a1 n v9 σ8) else (
        some (x2, σ8)))
def f_X5_most (σ : Blk) (a1 : Int) : Option (Int × Blk) :=
  Option.bind (f_X5_within a1 0 99) fun r1 =>
  if r1 ≠ 0 then (
    f_X5_most_L16 a1 fu 40 σ) else (
    some ((-2), σ))
def f_X5_put_L105 (a1 : Int64) (j7 : Blk → Option (Int × Blk)) : Nat → Int → Blk → Option (Int × Blk)
  | 0, _, _ => none
  | n + 1, x9, σ10 =>
    if x9 < 0 then (
      j7 σ10) else (
      Option.bind (sw σ10 7 80 (σ10 0 8) (l2i ((lushr a1 (8 * x9)) &&& ((255 : Int64))))) fun σ11 =>
      Option.bind (ck ((σ11 0 8) + 1)) fun v12 =>
      pf σ11 0 8 v12 fun σ13 =>
      Option.bind (ck (x9 + (-1))) fun v14 =>
      f_X5_put_L105 a1 j7 n v14 σ13)
def f_X5_put_L8 (j1 : Int → Int64 → Int → Option (Int × Blk)) : Nat → Int → Int64 → Int → Option (Int × Blk)
  | 0, _, _, _ => none
  | n + 1, x15, x16, x17 =>
    if 8 ≤ x15 then (
      j1 x15 x16 x17) else (
      if lcmp (x16 &&& ((255 : Int64))) ((0 : Int64)) = 0 then (
        j1 x15 x16 x17) else (
        jp (fun (x19 : Int) => 
          Option.bind (ck (x15 + 1)) fun v20 =>
          f_X5_put_L8 j1 n v20 (lushr x16 8) x19) fun j18 =>
        if x17 = 0 then (
          j18 0) else (
          Option.bind (f_X5_within (l2i (x16 &&& ((255 : Int64)))) 33 126) fun r21 =>
          if r21 = 0 then (
            j18 0) else (
            j18 1))))
def f_X5_put (σ : Blk) (a1 : Int64) : Option (Int × Blk) :=
  jp (fun (x2 : Int) (x3 : Int64) (x4 : Int) => 
    if x2 = 0 then (
      some ((-2), σ)) else (
      if x4 = 0 then (
        some ((-2), σ)) else (
        if lcmp x3 ((0 : Int64)) = 0 then (
          Option.bind (ck ((σ 0 8) + x2)) fun v5 =>
          if v5 ≤ 80 then (
            Option.bind (ck (x2 - 1)) fun v6 =>
            jp (fun (σ8 : Blk) => 
              some (σ8 0 8, σ8)) fun j7 =>
            f_X5_put_L105 a1 j7 fu v6 σ) else (
            some ((-4), σ))) else (
          some ((-2), σ))))) fun j1 =>
  f_X5_put_L8 j1 fu 0 a1 1
def f_X5_wipe (σ : Blk)  : Option (Int × Blk) :=
  nm (σ 0 8) fun v1 =>
  pf σ 0 8 0 fun σ2 =>
  some (v1, σ2)
def f_X5_fault (σ : Blk)  : Option (Int) :=
  Option.bind (f_X5_findFault σ) fun r1 =>
  some r1
def f_X5_undo (σ : Blk)  : Option (Int × Blk) :=
  if σ 0 4 ≠ 0 then (
    Option.bind (ck ((σ 0 4) - 1)) fun v1 =>
    pf σ 0 4 v1 fun σ2 =>
    Option.bind (ck ((σ2 0 4) * 763)) fun v3 =>
    Option.bind (f_X5_moves σ2 4 4578 v3 1 763 0) fun σ4 =>
    some (σ4 0 4, σ4)) else (
    some ((-5), σ))
def f_X5_save (σ : Blk) (a1 : Int) : Option (Int × Blk) :=
  Option.bind (f_X5_within a1 0 1) fun r1 =>
  if r1 ≠ 0 then (
    Option.bind (ck (763 * a1)) fun v2 =>
    Option.bind (f_X5_moves σ 1 763 0 5 1526 v2) fun σ3 =>
    Option.bind (sw σ3 6 2 a1 1) fun σ4 =>
    Option.bind (ld σ4 1 763 2) fun v5 =>
    some (v5, σ4)) else (
    some ((-2), σ))
def f_X5_restore (σ : Blk) (a1 : Int) : Option (Int × Blk) :=
  Option.bind (f_X5_within a1 0 1) fun r1 =>
  if r1 ≠ 0 then (
    Option.bind (ld σ 6 2 a1) fun v2 =>
    if v2 ≠ 0 then (
      Option.bind (f_X5_record σ 1 763) fun σ3 =>
      Option.bind (ck (763 * a1)) fun v4 =>
      Option.bind (f_X5_moves σ3 5 1526 v4 1 763 0) fun σ5 =>
      Option.bind (ld σ5 1 763 2) fun v6 =>
      some (v6, σ5)) else (
      some ((-5), σ))) else (
    some ((-2), σ))
def f_X5_init : Option Blk :=
  Option.bind (sw (fun _ _ => 0) 1 763 0 6) fun σ1 =>
  Option.bind (sw σ1 1 763 1 8) fun σ2 =>
  some σ2
