def f_X0_copyFrom_L127 (τ : Blk) : Nat → Int → Blk → Option (Blk)
  | 0, _, _ => none
  | n + 1, x11, σ12 =>
    if 30 ≤ x11 then (
      some σ12) else (
      gd x11 30 (
        gd x11 30 (
          pk (cpB σ12 (13 + x11.toNat) τ (13 + x11.toNat) 40) fun σ15 =>
          gd x11 30 (
            gd x11 30 (
              pk (cpB σ15 (44 + x11.toNat) τ (44 + x11.toNat) 40) fun σ18 =>
              Option.bind (ck (x11 + 1)) fun v19 =>
              f_X0_copyFrom_L127 τ n v19 σ18)))))
def f_X0_copyFrom (σ : Blk) (τ : Blk) : Option (Blk) :=
  pf σ 0 0 (τ 0 0) fun σ1 =>
  pf σ1 0 1 (τ 0 1) fun σ2 =>
  pf σ2 0 2 (τ 0 2) fun σ3 =>
  Option.bind (f_X3_copyFrom σ3 τ) fun σ4 =>
  pk (cpB σ4 6 τ 6 100) fun σ5 =>
  pk (cpB σ5 7 τ 7 30) fun σ6 =>
  pk (cpB σ6 8 τ 8 30) fun σ7 =>
  pk (cpB σ7 9 τ 9 30) fun σ8 =>
  pk (cpB σ8 10 τ 10 30) fun σ9 =>
  pk (cpB σ9 11 τ 11 30) fun σ10 =>
  f_X0_copyFrom_L127 τ fu 0 σ10
def f_X0_rowOf (σ : Blk) (a1 : Int) : Option (Int) :=
  if a1 < 0 then (
    some ((-1))) else (
    if a1 < 100 then (
      Option.bind (ld σ 6 100 a1) fun v1 =>
      some v1) else (
      some ((-1))))
def f_X0_addRow_L2 (σ : Blk) (a1 : Int) : Nat → Int → Option (Int × Blk)
  | 0, _ => none
  | n + 1, x1 =>
    if 30 ≤ x1 then (
      some ((-1), σ)) else (
      Option.bind (ld σ 7 30 x1) fun v2 =>
      if v2 ≠ (-1) then (
        Option.bind (ck (x1 + 1)) fun v3 =>
        f_X0_addRow_L2 σ a1 n v3) else (
        Option.bind (sw σ 7 30 x1 a1) fun σ4 =>
        Option.bind (sw σ4 6 100 a1 x1) fun σ5 =>
        Option.bind (ck ((σ5 0 2) + 1)) fun v6 =>
        pf σ5 0 2 v6 fun σ7 =>
        some (x1, σ7)))
def f_X0_addRow (σ : Blk) (a1 : Int) : Option (Int × Blk) :=
  f_X0_addRow_L2 σ a1 fu 0
def f_X0_headLetters (σ : Blk) (a1 : Int) : Option (Int) :=
  Option.bind (ld σ 8 30 a1) fun v1 =>
  some (imin v1 (σ 0 0))
def f_X0_headCells (σ : Blk) (a1 : Int) : Option (Int) :=
  Option.bind (f_X0_headLetters σ a1) fun r1 =>
  Option.bind (ck (2 + r1)) fun v2 =>
  some v2
def f_X0_layPieces_L15 (a1 : Int) (j4 : Int → Blk → Option (Int × Blk)) : Nat → Int → Int → Blk → Option (Int × Blk)
  | 0, _, _, _ => none
  | n + 1, x8, x9, σ10 =>
    if 40 ≤ x9 then (
      j4 x9 σ10) else (
      if x8 ≤ 0 then (
        j4 x9 σ10) else (
        nm (imin x8 (σ10 0 1)) fun v11 =>
        Option.bind (ld σ10 7 30 a1) fun v12 =>
        Option.bind (ck (1 + v11)) fun v13 =>
        bd2 (f_X3_place σ10 2 v12 v13) fun r14 σ15 =>
        if r14 ≠ (-1) then (
          gd a1 30 (
            Option.bind (sw σ15 (13 + a1.toNat) 40 x9 r14) fun σ17 =>
            Option.bind (ck (x8 - v11)) fun v18 =>
            Option.bind (ck (x9 + 1)) fun v19 =>
            f_X0_layPieces_L15 a1 j4 n v18 v19 σ17)) else (
          some (0, σ15))))
def f_X0_layPieces (σ : Blk) (a1 : Int) : Option (Int × Blk) :=
  Option.bind (ld σ 8 30 a1) fun v1 =>
  Option.bind (f_X0_headLetters σ a1) fun r2 =>
  Option.bind (ck (v1 - r2)) fun v3 =>
  jp (fun (x5 : Int) (σ6 : Blk) => 
    Option.bind (sw σ6 11 30 a1 x5) fun σ7 =>
    some (1, σ7)) fun j4 =>
  f_X0_layPieces_L15 a1 j4 fu v3 0 σ
def f_X0_layNew (σ : Blk) (a1 : Int) : Option (Int × Blk) :=
  Option.bind (ld σ 7 30 a1) fun v1 =>
  Option.bind (f_X0_headCells σ a1) fun r2 =>
  bd2 (f_X3_place σ 1 v1 r2) fun r3 σ4 =>
  Option.bind (sw σ4 9 30 a1 r3) fun σ5 =>
  Option.bind (sw σ5 10 30 a1 r3) fun σ6 =>
  if r3 = (-1) then (
    some (0, σ6)) else (
    bd2 (f_X0_layPieces σ6 a1) fun r7 σ8 =>
    if r7 = 0 then (
      some (0, σ8)) else (
      some (1, σ8)))
def f_X0_liftPieces_L2 (a1 : Int) (j1 : Blk → Option (Blk)) : Nat → Int → Blk → Option (Blk)
  | 0, _, _ => none
  | n + 1, x4, σ5 =>
    Option.bind (ld σ5 11 30 a1) fun v6 =>
    if v6 ≤ x4 then (
      j1 σ5) else (
      gd a1 30 (
        Option.bind (ld σ5 (13 + a1.toNat) 40 x4) fun v8 =>
        Option.bind (f_X3_vacate σ5 v8) fun σ9 =>
        Option.bind (ck (x4 + 1)) fun v10 =>
        f_X0_liftPieces_L2 a1 j1 n v10 σ9))
def f_X0_liftPieces (σ : Blk) (a1 : Int) : Option (Blk) :=
  jp (fun (σ2 : Blk) => 
    Option.bind (sw σ2 11 30 a1 0) fun σ3 =>
    some σ3) fun j1 =>
  f_X0_liftPieces_L2 a1 j1 fu 0 σ
def f_X0_layHeadAgain (σ : Blk) (a1 : Int) : Option (Int × Blk) :=
  Option.bind (ld σ 7 30 a1) fun v1 =>
  Option.bind (ld σ 9 30 a1) fun v2 =>
  Option.bind (ld σ 10 30 a1) fun v3 =>
  Option.bind (f_X0_headCells σ a1) fun r4 =>
  Option.bind (dv v3 40) fun v5 =>
  Option.bind (f_X3_hasRoom σ v5 r4) fun r6 =>
  if r6 = 0 then (
    if v3 ≠ v2 then (
      Option.bind (dv v2 40) fun v7 =>
      Option.bind (ck (r4 - 1)) fun v8 =>
      Option.bind (f_X3_hasRoom σ v7 v8) fun r9 =>
      if r9 = 0 then (
        bd2 (f_X3_place σ 1 v1 r4) fun r10 σ11 =>
        some (r10, σ11)) else (
        Option.bind (f_X3_vacate σ v2) fun σ12 =>
        Option.bind (f_X3_occupy σ12 v2 1 v1 r4) fun σ13 =>
        some (v2, σ13))) else (
      Option.bind (f_X3_occupy σ v2 3 v1 1) fun σ14 =>
      bd2 (f_X3_place σ14 1 v1 r4) fun r15 σ16 =>
      some (r15, σ16))) else (
    Option.bind (f_X3_occupy σ v3 1 v1 r4) fun σ17 =>
    some (v3, σ17))
def f_X0_layAgain (σ : Blk) (a1 : Int) : Option (Int × Blk) :=
  Option.bind (f_X0_liftPieces σ a1) fun σ1 =>
  Option.bind (ld σ1 10 30 a1) fun v2 =>
  Option.bind (f_X3_vacate σ1 v2) fun σ3 =>
  bd2 (f_X0_layHeadAgain σ3 a1) fun r4 σ5 =>
  Option.bind (sw σ5 10 30 a1 r4) fun σ6 =>
  Option.bind (ld σ6 10 30 a1) fun v7 =>
  if v7 = (-1) then (
    some (0, σ6)) else (
    bd2 (f_X0_layPieces σ6 a1) fun r8 σ9 =>
    if r8 = 0 then (
      some (0, σ9)) else (
      some (1, σ9)))
def f_X0_layRow (σ : Blk) (a1 : Int) (a2 : Int) : Option (Int × Blk) :=
  Option.bind (f_X0_rowOf σ a1) fun r1 =>
  if r1 ≠ (-1) then (
    Option.bind (sw σ 8 30 r1 a2) fun σ2 =>
    bd2 (f_X0_layAgain σ2 r1) fun r3 σ4 =>
    if r3 = 0 then (
      some ((-1), σ4)) else (
      some (r1, σ4))) else (
    bd2 (f_X0_addRow σ a1) fun r5 σ6 =>
    if r5 ≠ (-1) then (
      Option.bind (sw σ6 8 30 r5 a2) fun σ7 =>
      bd2 (f_X0_layNew σ7 r5) fun r8 σ9 =>
      if r8 = 0 then (
        some ((-1), σ9)) else (
        some (r5, σ9))) else (
      some ((-1), σ6)))
def f_X0_hasMoved (σ : Blk) (a1 : Int) : Option (Int) :=
  Option.bind (ld σ 10 30 a1) fun v1 =>
  Option.bind (ld σ 9 30 a1) fun v2 =>
  if v1 = v2 then (
    some 0) else (
    some 1)
def f_X0_removeRow (σ : Blk) (a1 : Int) : Option (Blk) :=
  Option.bind (f_X0_liftPieces σ a1) fun σ1 =>
  Option.bind (ld σ1 10 30 a1) fun v2 =>
  Option.bind (f_X3_vacate σ1 v2) fun σ3 =>
  Option.bind (f_X0_hasMoved σ3 a1) fun r4 =>
  jp (fun (σ6 : Blk) => 
    Option.bind (ld σ6 7 30 a1) fun v7 =>
    Option.bind (sw σ6 6 100 v7 ((-1))) fun σ8 =>
    Option.bind (sw σ8 7 30 a1 ((-1))) fun σ9 =>
    Option.bind (ck ((σ9 0 2) - 1)) fun v10 =>
    pf σ9 0 2 v10 fun σ11 =>
    some σ11) fun j5 =>
  if r4 = 0 then (
    j5 σ3) else (
    Option.bind (ld σ3 9 30 a1) fun v12 =>
    Option.bind (f_X3_vacate σ3 v12) fun σ13 =>
    j5 σ13)
def f_X0_packAll_L9  : Nat → Int → Blk → Option (Int × Blk)
  | 0, _, _ => none
  | n + 1, x2, σ3 =>
    if 100 ≤ x2 then (
      some (1, σ3)) else (
      Option.bind (ld σ3 6 100 x2) fun v4 =>
      jp (fun (σ6 : Blk) => 
        Option.bind (ck (x2 + 1)) fun v7 =>
        f_X0_packAll_L9 n v7 σ6) fun j5 =>
      if v4 = (-1) then (
        j5 σ3) else (
        Option.bind (ld σ3 6 100 x2) fun v8 =>
        bd2 (f_X0_layNew σ3 v8) fun r9 σ10 =>
        if r9 ≠ 0 then (
          j5 σ10) else (
          some (0, σ10))))
def f_X0_packAll (σ : Blk)  : Option (Int × Blk) :=
  Option.bind (f_X3_clear σ) fun σ1 =>
  f_X0_packAll_L9 fu 0 σ1
def f_X0_costOf_L32 (σ : Blk) (a1 : Int) : Nat → Int → Int → Int → Option (Int)
  | 0, _, _, _ => none
  | n + 1, x7, x8, x9 =>
    Option.bind (ld σ 11 30 a1) fun v10 =>
    if v10 ≤ x9 then (
      some x8) else (
      gd a1 30 (
        Option.bind (ld σ (13 + a1.toNat) 40 x9) fun v12 =>
        Option.bind (dv v12 40) fun v13 =>
        jp (fun (x15 : Int) => 
          Option.bind (ck (x9 + 1)) fun v16 =>
          f_X0_costOf_L32 σ a1 n v13 x15 v16) fun j14 =>
        if v13 = x7 then (
          j14 x8) else (
          Option.bind (ck (x8 + 1)) fun v17 =>
          j14 v17)))
def f_X0_costOf (σ : Blk) (a1 : Int) : Option (Int) :=
  Option.bind (ld σ 10 30 a1) fun v1 =>
  Option.bind (dv v1 40) fun v2 =>
  Option.bind (ld σ 9 30 a1) fun v3 =>
  Option.bind (dv v3 40) fun v4 =>
  jp (fun (x6 : Int) => 
    f_X0_costOf_L32 σ a1 fu v2 x6 0) fun j5 =>
  if v2 ≠ v4 then (
    j5 2) else (
    j5 1)
def f_X0_cellsOf_L17 (σ : Blk) (a1 : Int) (j3 : Int → Option (Int)) : Nat → Int → Int → Option (Int)
  | 0, _, _ => none
  | n + 1, x7, x8 =>
    Option.bind (ld σ 11 30 a1) fun v9 =>
    if v9 ≤ x8 then (
      j3 x7) else (
      gd a1 30 (
        Option.bind (ld σ (13 + a1.toNat) 40 x8) fun v11 =>
        Option.bind (ld σ 4 400 v11) fun v12 =>
        Option.bind (ck (x7 + v12)) fun v13 =>
        Option.bind (ck (x8 + 1)) fun v14 =>
        f_X0_cellsOf_L17 σ a1 j3 n v13 v14))
def f_X0_cellsOf (σ : Blk) (a1 : Int) : Option (Int) :=
  Option.bind (ld σ 10 30 a1) fun v1 =>
  Option.bind (ld σ 4 400 v1) fun v2 =>
  jp (fun (x4 : Int) => 
    Option.bind (f_X0_hasMoved σ a1) fun r5 =>
    if r5 = 0 then (
      some x4) else (
      Option.bind (ck (x4 + 1)) fun v6 =>
      some v6)) fun j3 =>
  f_X0_cellsOf_L17 σ a1 j3 fu v2 0
def f_X0_costInAll_L4 (σ : Blk) : Nat → Int → Int → Option (Int)
  | 0, _, _ => none
  | n + 1, x1, x2 =>
    if 30 ≤ x2 then (
      some x1) else (
      Option.bind (ld σ 7 30 x2) fun v3 =>
      jp (fun (x5 : Int) => 
        Option.bind (ck (x2 + 1)) fun v6 =>
        f_X0_costInAll_L4 σ n x5 v6) fun j4 =>
      if v3 = (-1) then (
        j4 x1) else (
        Option.bind (f_X0_costOf σ x2) fun r7 =>
        Option.bind (ck (x1 + r7)) fun v8 =>
        j4 v8))
def f_X0_costInAll (σ : Blk)  : Option (Int) :=
  f_X0_costInAll_L4 σ fu 0 0
def f_X0_greatestCost_L4 (σ : Blk) : Nat → Int → Int → Option (Int)
  | 0, _, _ => none
  | n + 1, x1, x2 =>
    if 30 ≤ x2 then (
      some x1) else (
      Option.bind (ld σ 7 30 x2) fun v3 =>
      jp (fun (x5 : Int) => 
        Option.bind (ck (x2 + 1)) fun v6 =>
        f_X0_greatestCost_L4 σ n x5 v6) fun j4 =>
      if v3 = (-1) then (
        j4 x1) else (
        Option.bind (f_X0_costOf σ x2) fun r7 =>
        nm (imax x1 r7) fun v8 =>
        j4 v8))
def f_X0_greatestCost (σ : Blk)  : Option (Int) :=
  f_X0_greatestCost_L4 σ fu 0 0
def f_X0_lettersInAll_L4 (σ : Blk) : Nat → Int → Int → Option (Int)
  | 0, _, _ => none
  | n + 1, x1, x2 =>
    if 30 ≤ x2 then (
      some x1) else (
      Option.bind (ld σ 7 30 x2) fun v3 =>
      jp (fun (x5 : Int) => 
        Option.bind (ck (x2 + 1)) fun v6 =>
        f_X0_lettersInAll_L4 σ n x5 v6) fun j4 =>
      if v3 = (-1) then (
        j4 x1) else (
        Option.bind (ld σ 8 30 x2) fun v7 =>
        Option.bind (ck (x1 + v7)) fun v8 =>
        j4 v8))
def f_X0_lettersInAll (σ : Blk)  : Option (Int) :=
  f_X0_lettersInAll_L4 σ fu 0 0
