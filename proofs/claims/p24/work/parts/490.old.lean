/-! OLD PICTURES: what an earlier form of the class did, as plain functions over integers (kept as a middle term between the class of now and the reference) -/
/-- a Book's cells as the middle terms count them: 6 numbers, 7 keys, 8 letters, 9 homes, 10 heads, 11 pieces, 13 + r a row's pieces, 44 + r its text -/
def VW (β : Blk) : Blk := fun c j => if c < 6 then β c j else if c = 6 then β 7 j else if c < 12 then β (8 + 3 * j) (c - 7) else if c < 13 then 0 else if c < 43 then β (9 + 3 * (c - 13)) j else if c < 44 then 0 else β (10 + 3 * (c - 44)) j
def gd {α : Type} (j : Int) (n : Nat) (K : Option α) : Option α := if 0 ≤ j ∧ j < (n : Int) then K else none
def f_X3_copyFrom (σ : Blk) (τ : Blk) : Option (Blk) :=
  pk (cpB σ 2 τ 2 400) fun σ1 =>
  pk (cpB σ1 3 τ 3 400) fun σ2 =>
  pk (cpB σ2 4 τ 4 400) fun σ3 =>
  pk (cpB σ3 5 τ 5 10) fun σ4 =>
  some σ4
def f_X3_hasRoom (σ : Blk) (a1 : Int) (a2 : Int) : Option (Int) :=
  Option.bind (ld σ 5 10 a1) fun v1 =>
  if v1 < a2 then (
    some 0) else (
    some 1)
def f_X3_lowestGap_L2 (σ : Blk) (a1 : Int) : Nat → Int → Option (Int)
  | 0, _ => none
  | n + 1, x1 =>
    if 40 ≤ x1 then (
      some ((-1))) else (
      Option.bind (ck ((a1 * 40) + x1)) fun v2 =>
      Option.bind (ld σ 2 400 v2) fun v3 =>
      if v3 ≠ 0 then (
        Option.bind (ck (x1 + 1)) fun v4 =>
        f_X3_lowestGap_L2 σ a1 n v4) else (
        some v2))
def f_X3_lowestGap (σ : Blk) (a1 : Int) : Option (Int) :=
  f_X3_lowestGap_L2 σ a1 fu 0
def f_X3_occupy (σ : Blk) (a1 : Int) (a2 : Int) (a3 : Int) (a4 : Int) : Option (Blk) :=
  Option.bind (sw σ 2 400 a1 a2) fun σ1 =>
  Option.bind (sw σ1 3 400 a1 a3) fun σ2 =>
  Option.bind (sw σ2 4 400 a1 a4) fun σ3 =>
  Option.bind (dv a1 40) fun v4 =>
  Option.bind (ld σ3 5 10 v4) fun v5 =>
  Option.bind (ck (v5 - a4)) fun v6 =>
  Option.bind (sw σ3 5 10 v4 v6) fun σ7 =>
  some σ7
def f_X3_place_L3 (σ : Blk) (a1 : Int) (a2 : Int) (a3 : Int) : Nat → Int → Option (Int × Blk)
  | 0, _ => none
  | n + 1, x1 =>
    if 10 ≤ x1 then (
      some ((-1), σ)) else (
      Option.bind (f_X3_hasRoom σ x1 a3) fun r2 =>
      if r2 = 0 then (
        Option.bind (ck (x1 + 1)) fun v3 =>
        f_X3_place_L3 σ a1 a2 a3 n v3) else (
        Option.bind (f_X3_lowestGap σ x1) fun r4 =>
        if r4 = (-1) then (
          some (r4, σ)) else (
          Option.bind (f_X3_occupy σ r4 a1 a2 a3) fun σ5 =>
          some (r4, σ5))))
def f_X3_place (σ : Blk) (a1 : Int) (a2 : Int) (a3 : Int) : Option (Int × Blk) :=
  f_X3_place_L3 σ a1 a2 a3 fu 0
def f_X3_vacate (σ : Blk) (a1 : Int) : Option (Blk) :=
  Option.bind (dv a1 40) fun v1 =>
  Option.bind (ld σ 5 10 v1) fun v2 =>
  Option.bind (ld σ 4 400 a1) fun v3 =>
  Option.bind (ck (v2 + v3)) fun v4 =>
  Option.bind (sw σ 5 10 v1 v4) fun σ5 =>
  Option.bind (sw σ5 2 400 a1 0) fun σ6 =>
  Option.bind (sw σ6 4 400 a1 0) fun σ7 =>
  some σ7
def f_X3_clear (σ : Blk)  : Option (Blk) :=
  Option.bind (f_J7_fill_53178 σ 2 400 0) fun σ1 =>
  Option.bind (f_J7_fill_53178 σ1 4 400 0) fun σ2 =>
  Option.bind (f_J7_fill_53178 σ2 5 10 40) fun σ3 =>
  some σ3
def f_X3_slotsOf_L3 (σ : Blk) (a1 : Int) : Nat → Int → Option (Int)
  | 0, _ => none
  | n + 1, x1 =>
    if x1 < 0 then (
      some 0) else (
      Option.bind (ld σ 2 400 ((a1 * 40) + x1)) fun v2 =>
      if v2 = 0 then (
        Option.bind (ck (x1 + (-1))) fun v3 =>
        f_X3_slotsOf_L3 σ a1 n v3) else (
        Option.bind (ck (x1 + 1)) fun v4 =>
        some v4))
def f_X3_slotsOf (σ : Blk) (a1 : Int) : Option (Int) :=
  f_X3_slotsOf_L3 σ a1 fu 39
def f_X3_thingsOn_L12 (σ : Blk) (a1 : Int) (a2 : Int) (r1 : Int) : Nat → Int → Int → Option (Int)
  | 0, _, _ => none
  | n + 1, x2, x3 =>
    if r1 ≤ x3 then (
      some x2) else (
      Option.bind (ld σ 2 400 ((a1 * 40) + x3)) fun v4 =>
      jp (fun (x6 : Int) => 
        Option.bind (ck (x3 + 1)) fun v7 =>
        f_X3_thingsOn_L12 σ a1 a2 r1 n x6 v7) fun j5 =>
      if v4 ≠ a2 then (
        j5 x2) else (
        Option.bind (ck (x2 + 1)) fun v8 =>
        j5 v8))
def f_X3_thingsOn (σ : Blk) (a1 : Int) (a2 : Int) : Option (Int) :=
  Option.bind (f_X3_slotsOf σ a1) fun r1 =>
  f_X3_thingsOn_L12 σ a1 a2 r1 fu 0 0
def f_X3_thingsInAll_L4 (σ : Blk) (a1 : Int) : Nat → Int → Int → Option (Int)
  | 0, _, _ => none
  | n + 1, x1, x2 =>
    if 10 ≤ x2 then (
      some x1) else (
      Option.bind (f_X3_thingsOn σ x2 a1) fun r3 =>
      Option.bind (ck (x1 + r3)) fun v4 =>
      Option.bind (ck (x2 + 1)) fun v5 =>
      f_X3_thingsInAll_L4 σ a1 n v4 v5)
def f_X3_thingsInAll (σ : Blk) (a1 : Int) : Option (Int) :=
  f_X3_thingsInAll_L4 σ a1 fu 0 0
def f_X3_pagesInUse_L4 (σ : Blk) : Nat → Int → Int → Option (Int)
  | 0, _, _ => none
  | n + 1, x1, x2 =>
    if 10 ≤ x2 then (
      some x1) else (
      Option.bind (ld σ 5 10 x2) fun v3 =>
      jp (fun (x5 : Int) => 
        Option.bind (ck (x2 + 1)) fun v6 =>
        f_X3_pagesInUse_L4 σ n x5 v6) fun j4 =>
      if 40 ≤ v3 then (
        j4 x1) else (
        Option.bind (ck (x1 + 1)) fun v7 =>
        j4 v7))
def f_X3_pagesInUse (σ : Blk)  : Option (Int) :=
  f_X3_pagesInUse_L4 σ fu 0 0
def f_X3_freeInAll_L4 (σ : Blk) : Nat → Int → Int → Option (Int)
  | 0, _, _ => none
  | n + 1, x1, x2 =>
    if 10 ≤ x2 then (
      some x1) else (
      Option.bind (ld σ 5 10 x2) fun v3 =>
      Option.bind (ck (x1 + v3)) fun v4 =>
      Option.bind (ck (x2 + 1)) fun v5 =>
      f_X3_freeInAll_L4 σ n v4 v5)
def f_X3_freeInAll (σ : Blk)  : Option (Int) :=
  f_X3_freeInAll_L4 σ fu 0 0
def f_X0_copyFrom_L127 (τ : Blk) : Nat → Int → Blk → Option (Blk)
  | 0, _, _ => none
  | n + 1, x11, σ12 =>
    if 30 ≤ x11 then (
      some σ12) else (
      gd x11 30 (
        gd x11 30 (
          pk (cpB σ12 (13 + x11.toNat) τ (13 + x11.toNat) 40) fun σ15 =>
          gd x11 30 (
            gd x11 30 (
              pk (cpB σ15 (44 + x11.toNat) τ (44 + x11.toNat) 40) fun σ18 =>
              Option.bind (ck (x11 + 1)) fun v19 =>
              f_X0_copyFrom_L127 τ n v19 σ18)))))
def f_X0_copyFrom (σ : Blk) (τ : Blk) : Option (Blk) :=
  pf σ 0 0 (τ 0 0) fun σ1 =>
  pf σ1 0 1 (τ 0 1) fun σ2 =>
  pf σ2 0 2 (τ 0 2) fun σ3 =>
  Option.bind (f_X3_copyFrom σ3 τ) fun σ4 =>
  pk (cpB σ4 6 τ 6 100) fun σ5 =>
  pk (cpB σ5 7 τ 7 30) fun σ6 =>
  pk (cpB σ6 8 τ 8 30) fun σ7 =>
  pk (cpB σ7 9 τ 9 30) fun σ8 =>
  pk (cpB σ8 10 τ 10 30) fun σ9 =>
  pk (cpB σ9 11 τ 11 30) fun σ10 =>
  f_X0_copyFrom_L127 τ fu 0 σ10
def f_X0_rowOf (σ : Blk) (a1 : Int) : Option (Int) :=
  if a1 < 0 then (
    some ((-1))) else (
    if a1 < 100 then (
      Option.bind (ld σ 6 100 a1) fun v1 =>
      if v1 < 0 then (
        some (-1)) else (
        if v1 < 30 then (
          some v1) else (
          some (-1)))) else (
      some ((-1))))
def f_X0_addRow_L2 (σ : Blk) (a1 : Int) : Nat → Int → Option (Int × Blk)
  | 0, _ => none
  | n + 1, x1 =>
    if 30 ≤ x1 then (
      some ((-1), σ)) else (
      Option.bind (ld σ 7 30 x1) fun v2 =>
      if v2 ≠ (-1) then (
        Option.bind (ck (x1 + 1)) fun v3 =>
        f_X0_addRow_L2 σ a1 n v3) else (
        Option.bind (sw σ 7 30 x1 a1) fun σ4 =>
        Option.bind (sw σ4 6 100 a1 x1) fun σ5 =>
        Option.bind (ck ((σ5 0 2) + 1)) fun v6 =>
        pf σ5 0 2 v6 fun σ7 =>
        some (x1, σ7)))
def f_X0_addRow (σ : Blk) (a1 : Int) : Option (Int × Blk) :=
  f_X0_addRow_L2 σ a1 fu 0
def f_X0_headLetters (σ : Blk) (a1 : Int) : Option (Int) :=
  Option.bind (ld σ 8 30 a1) fun v1 =>
  some (imin v1 (σ 0 0))
def f_X0_headCells (σ : Blk) (a1 : Int) : Option (Int) :=
  Option.bind (f_X0_headLetters σ a1) fun r1 =>
  Option.bind (ck (2 + r1)) fun v2 =>
  some v2
def f_X0_layPieces_L15 (a1 : Int) : Nat → Int → Int → Blk → Option (Int × Blk)
  | 0, _, _, _ => none
  | n + 1, x8, x9, σ10 =>
    if 40 ≤ x9 then (
      some (1, σ10)) else (
      if x8 ≤ 0 then (
        some (1, σ10)) else (
        nm (imin x8 (σ10 0 1)) fun v11 =>
        Option.bind (ld σ10 7 30 a1) fun v12 =>
        Option.bind (ck (1 + v11)) fun v13 =>
        bd2 (f_X3_place σ10 2 v12 v13) fun r14 σ15 =>
        if r14 ≠ (-1) then (
          gd a1 30 (
            Option.bind (sw σ15 (13 + a1.toNat) 40 x9 r14) fun σ17 =>
            Option.bind (ld σ17 11 30 a1) fun v20 =>
            Option.bind (ck (v20 + 1)) fun v21 =>
            Option.bind (sw σ17 11 30 a1 v21) fun σ22 =>
            Option.bind (ck (x8 - v11)) fun v18 =>
            Option.bind (ck (x9 + 1)) fun v19 =>
            f_X0_layPieces_L15 a1 n v18 v19 σ22)) else (
          some (0, σ15))))
def f_X0_layPieces (σ : Blk) (a1 : Int) : Option (Int × Blk) :=
  Option.bind (ld σ 8 30 a1) fun v1 =>
  Option.bind (f_X0_headLetters σ a1) fun r2 =>
  Option.bind (ck (v1 - r2)) fun v3 =>
  Option.bind (sw σ 11 30 a1 0) fun σ4 =>
  f_X0_layPieces_L15 a1 fu v3 0 σ4
def f_X0_layNew (σ : Blk) (a1 : Int) : Option (Int × Blk) :=
  Option.bind (ld σ 7 30 a1) fun v1 =>
  Option.bind (f_X0_headCells σ a1) fun r2 =>
  bd2 (f_X3_place σ 1 v1 r2) fun r3 σ4 =>
  Option.bind (sw σ4 9 30 a1 r3) fun σ5 =>
  Option.bind (sw σ5 10 30 a1 r3) fun σ6 =>
  if r3 = (-1) then (
    some (0, σ6)) else (
    bd2 (f_X0_layPieces σ6 a1) fun r7 σ8 =>
    if r7 = 0 then (
      some (0, σ8)) else (
      some (1, σ8)))
def f_X0_liftPieces_L2 (a1 : Int) (j1 : Blk → Option (Blk)) : Nat → Int → Blk → Option (Blk)
  | 0, _, _ => none
  | n + 1, x4, σ5 =>
    Option.bind (ld σ5 11 30 a1) fun v6 =>
    if v6 ≤ x4 then (
      j1 σ5) else (
      gd a1 30 (
        Option.bind (ld σ5 (13 + a1.toNat) 40 x4) fun v8 =>
        Option.bind (f_X3_vacate σ5 v8) fun σ9 =>
        Option.bind (ck (x4 + 1)) fun v10 =>
        f_X0_liftPieces_L2 a1 j1 n v10 σ9))
def f_X0_liftPieces (σ : Blk) (a1 : Int) : Option (Blk) :=
  jp (fun (σ2 : Blk) => 
    Option.bind (sw σ2 11 30 a1 0) fun σ3 =>
    some σ3) fun j1 =>
  f_X0_liftPieces_L2 a1 j1 fu 0 σ
def f_X0_layHeadAgain (σ : Blk) (a1 : Int) : Option (Int × Blk) :=
  Option.bind (ld σ 7 30 a1) fun v1 =>
  Option.bind (ld σ 9 30 a1) fun v2 =>
  Option.bind (ld σ 10 30 a1) fun v3 =>
  Option.bind (f_X0_headCells σ a1) fun r4 =>
  Option.bind (dv v3 40) fun v5 =>
  Option.bind (f_X3_hasRoom σ v5 r4) fun r6 =>
  if r6 = 0 then (
    if v3 ≠ v2 then (
      Option.bind (dv v2 40) fun v7 =>
      Option.bind (ck (r4 - 1)) fun v8 =>
      Option.bind (f_X3_hasRoom σ v7 v8) fun r9 =>
      if r9 = 0 then (
        bd2 (f_X3_place σ 1 v1 r4) fun r10 σ11 =>
        some (r10, σ11)) else (
        Option.bind (f_X3_vacate σ v2) fun σ12 =>
        Option.bind (f_X3_occupy σ12 v2 1 v1 r4) fun σ13 =>
        some (v2, σ13))) else (
      Option.bind (f_X3_occupy σ v2 3 v1 1) fun σ14 =>
      bd2 (f_X3_place σ14 1 v1 r4) fun r15 σ16 =>
      some (r15, σ16))) else (
    Option.bind (f_X3_occupy σ v3 1 v1 r4) fun σ17 =>
    some (v3, σ17))
def f_X0_layAgain (σ : Blk) (a1 : Int) : Option (Int × Blk) :=
  Option.bind (f_X0_liftPieces σ a1) fun σ1 =>
  Option.bind (ld σ1 10 30 a1) fun v2 =>
  Option.bind (f_X3_vacate σ1 v2) fun σ3 =>
  bd2 (f_X0_layHeadAgain σ3 a1) fun r4 σ5 =>
  Option.bind (sw σ5 10 30 a1 r4) fun σ6 =>
  Option.bind (ld σ6 10 30 a1) fun v7 =>
  if v7 = (-1) then (
    some (0, σ6)) else (
    bd2 (f_X0_layPieces σ6 a1) fun r8 σ9 =>
    if r8 = 0 then (
      some (0, σ9)) else (
      some (1, σ9)))
def f_X0_layRow (σ : Blk) (a1 : Int) (a2 : Int) : Option (Int × Blk) :=
  Option.bind (f_X0_rowOf σ a1) fun r1 =>
  if r1 ≠ (-1) then (
    Option.bind (sw σ 8 30 r1 a2) fun σ2 =>
    bd2 (f_X0_layAgain σ2 r1) fun r3 σ4 =>
    if r3 = 0 then (
      some ((-1), σ4)) else (
      some (r1, σ4))) else (
    bd2 (f_X0_addRow σ a1) fun r5 σ6 =>
    if r5 ≠ (-1) then (
      Option.bind (sw σ6 8 30 r5 a2) fun σ7 =>
      bd2 (f_X0_layNew σ7 r5) fun r8 σ9 =>
      if r8 = 0 then (
        some ((-1), σ9)) else (
        some (r5, σ9))) else (
      some ((-1), σ6)))
def f_X0_hasMoved (σ : Blk) (a1 : Int) : Option (Int) :=
  Option.bind (ld σ 10 30 a1) fun v1 =>
  Option.bind (ld σ 9 30 a1) fun v2 =>
  if v1 = v2 then (
    some 0) else (
    some 1)
def f_X0_removeRow (σ : Blk) (a1 : Int) : Option (Blk) :=
  Option.bind (f_X0_liftPieces σ a1) fun σ1 =>
  Option.bind (ld σ1 10 30 a1) fun v2 =>
  Option.bind (f_X3_vacate σ1 v2) fun σ3 =>
  Option.bind (f_X0_hasMoved σ3 a1) fun r4 =>
  jp (fun (σ6 : Blk) => 
    Option.bind (ld σ6 7 30 a1) fun v7 =>
    Option.bind (sw σ6 6 100 v7 ((-1))) fun σ8 =>
    Option.bind (sw σ8 7 30 a1 ((-1))) fun σ9 =>
    Option.bind (ck ((σ9 0 2) - 1)) fun v10 =>
    pf σ9 0 2 v10 fun σ11 =>
    some σ11) fun j5 =>
  if r4 = 0 then (
    j5 σ3) else (
    Option.bind (ld σ3 9 30 a1) fun v12 =>
    Option.bind (f_X3_vacate σ3 v12) fun σ13 =>
    j5 σ13)
def f_X0_packAll_L9  : Nat → Int → Blk → Option (Int × Blk)
  | 0, _, _ => none
  | n + 1, x2, σ3 =>
    if 100 ≤ x2 then (
      some (1, σ3)) else (
      Option.bind (ld σ3 6 100 x2) fun v4 =>
      jp (fun (σ6 : Blk) => 
        Option.bind (ck (x2 + 1)) fun v7 =>
        f_X0_packAll_L9 n v7 σ6) fun j5 =>
      if v4 = (-1) then (
        j5 σ3) else (
        Option.bind (ld σ3 6 100 x2) fun v8 =>
        bd2 (f_X0_layNew σ3 v8) fun r9 σ10 =>
        if r9 ≠ 0 then (
          j5 σ10) else (
          some (0, σ10))))
def f_X0_packAll (σ : Blk)  : Option (Int × Blk) :=
  Option.bind (f_X3_clear σ) fun σ1 =>
  f_X0_packAll_L9 fu 0 σ1
def f_X0_costOf_L32 (σ : Blk) (a1 : Int) : Nat → Int → Int → Int → Option (Int)
  | 0, _, _, _ => none
  | n + 1, x7, x8, x9 =>
    Option.bind (ld σ 11 30 a1) fun v10 =>
    if v10 ≤ x9 then (
      some x8) else (
      gd a1 30 (
        Option.bind (ld σ (13 + a1.toNat) 40 x9) fun v12 =>
        Option.bind (dv v12 40) fun v13 =>
        jp (fun (x15 : Int) => 
          Option.bind (ck (x9 + 1)) fun v16 =>
          f_X0_costOf_L32 σ a1 n v13 x15 v16) fun j14 =>
        if v13 = x7 then (
          j14 x8) else (
          Option.bind (ck (x8 + 1)) fun v17 =>
          j14 v17)))
def f_X0_costOf (σ : Blk) (a1 : Int) : Option (Int) :=
  Option.bind (ld σ 10 30 a1) fun v1 =>
  Option.bind (dv v1 40) fun v2 =>
  Option.bind (ld σ 9 30 a1) fun v3 =>
  Option.bind (dv v3 40) fun v4 =>
  jp (fun (x6 : Int) => 
    f_X0_costOf_L32 σ a1 fu v2 x6 0) fun j5 =>
  if v2 ≠ v4 then (
    j5 2) else (
    j5 1)
def f_X0_cellsOf_L17 (σ : Blk) (a1 : Int) (j3 : Int → Option (Int)) : Nat → Int → Int → Option (Int)
  | 0, _, _ => none
  | n + 1, x7, x8 =>
    Option.bind (ld σ 11 30 a1) fun v9 =>
    if v9 ≤ x8 then (
      j3 x7) else (
      gd a1 30 (
        Option.bind (ld σ (13 + a1.toNat) 40 x8) fun v11 =>
        Option.bind (ld σ 4 400 v11) fun v12 =>
        Option.bind (ck (x7 + v12)) fun v13 =>
        Option.bind (ck (x8 + 1)) fun v14 =>
        f_X0_cellsOf_L17 σ a1 j3 n v13 v14))
def f_X0_cellsOf (σ : Blk) (a1 : Int) : Option (Int) :=
  Option.bind (ld σ 10 30 a1) fun v1 =>
  Option.bind (ld σ 4 400 v1) fun v2 =>
  jp (fun (x4 : Int) => 
    Option.bind (f_X0_hasMoved σ a1) fun r5 =>
    if r5 = 0 then (
      some x4) else (
      Option.bind (ck (x4 + 1)) fun v6 =>
      some v6)) fun j3 =>
  f_X0_cellsOf_L17 σ a1 j3 fu v2 0
def f_X0_costInAll_L4 (σ : Blk) : Nat → Int → Int → Option (Int)
  | 0, _, _ => none
  | n + 1, x1, x2 =>
    if 100 ≤ x2 then (
      some x1) else (
      Option.bind (f_X0_rowOf σ x2) fun r3 =>
      jp (fun (x5 : Int) =>
        Option.bind (ck (x2 + 1)) fun v6 =>
        f_X0_costInAll_L4 σ n x5 v6) fun j4 =>
      if r3 = (-1) then (
        j4 x1) else (
        Option.bind (f_X0_costOf σ r3) fun r7 =>
        Option.bind (ck (x1 + r7)) fun v8 =>
        j4 v8))
def f_X0_costInAll (σ : Blk)  : Option (Int) :=
  f_X0_costInAll_L4 σ fu 0 0
def f_X0_greatestCost_L4 (σ : Blk) : Nat → Int → Int → Option (Int)
  | 0, _, _ => none
  | n + 1, x1, x2 =>
    if 100 ≤ x2 then (
      some x1) else (
      Option.bind (f_X0_rowOf σ x2) fun r3 =>
      jp (fun (x5 : Int) =>
        Option.bind (ck (x2 + 1)) fun v6 =>
        f_X0_greatestCost_L4 σ n x5 v6) fun j4 =>
      if r3 = (-1) then (
        j4 x1) else (
        Option.bind (f_X0_costOf σ r3) fun r7 =>
        nm (imax x1 r7) fun v8 =>
        j4 v8))
def f_X0_greatestCost (σ : Blk)  : Option (Int) :=
  f_X0_greatestCost_L4 σ fu 0 0
def f_X0_lettersInAll_L4 (σ : Blk) : Nat → Int → Int → Option (Int)
  | 0, _, _ => none
  | n + 1, x1, x2 =>
    if 100 ≤ x2 then (
      some x1) else (
      Option.bind (f_X0_rowOf σ x2) fun r3 =>
      jp (fun (x5 : Int) =>
        Option.bind (ck (x2 + 1)) fun v6 =>
        f_X0_lettersInAll_L4 σ n x5 v6) fun j4 =>
      if r3 = (-1) then (
        j4 x1) else (
        Option.bind (ld σ 8 30 r3) fun v7 =>
        Option.bind (ck (x1 + v7)) fun v8 =>
        j4 v8))
def f_X0_lettersInAll (σ : Blk)  : Option (Int) :=
  f_X0_lettersInAll_L4 σ fu 0 0
def f_X2_awaitKey (σ : Blk)  : Option (Blk) :=
  pf σ 0 6 0 fun σ1 =>
  pf σ1 0 7 0 fun σ2 =>
  pf σ2 0 8 0 fun σ3 =>
  some σ3
def f_X2_readInText (σ : Blk) (a1 : Int) : Option (Int × Blk) :=
  if a1 ≠ 59 then (
    Option.bind (ck ((σ 0 2) - 1)) fun v1 =>
    if a1 < 97 then (
      some (0, σ)) else (
      if 122 < a1 then (
        some (0, σ)) else (
        if v1 < 0 then (
          none) else (
          Option.bind (ld σ 4 27 v1) fun v2 =>
          if v2 < 40 then (
            Option.bind (ld σ 4 27 v1) fun v3 =>
            Option.bind (ck (v3 + 1)) fun v4 =>
            Option.bind (sw σ 4 27 v1 v4) fun σ5 =>
            some (1, σ5)) else (
            some (0, σ)))))) else (
    Option.bind (f_X2_awaitKey σ) fun σ6 =>
    some (1, σ6))
def f_X2_startText (σ : Blk) (a1 : Int) : Option (Int × Blk) :=
  if σ 0 2 < 27 then (
    Option.bind (sw σ 2 27 (σ 0 2) (σ 0 8)) fun σ1 =>
    Option.bind (sw σ1 3 27 (σ1 0 2) a1) fun σ2 =>
    Option.bind (sw σ2 4 27 (σ2 0 2) 0) fun σ3 =>
    Option.bind (ck ((σ3 0 2) + 1)) fun v4 =>
    pf σ3 0 2 v4 fun σ5 =>
    pf σ5 0 6 1 fun σ6 =>
    some (1, σ6)) else (
    some (0, σ))
def f_X2_readInKey (σ : Blk) (a1 : Int) (a2 : Int) : Option (Int × Blk) :=
  if a2 ≠ 61 then (
    jp (fun (x2 : Int) => 
      if a2 < 48 then (
        some (0, σ)) else (
        if 57 < a2 then (
          some (0, σ)) else (
          if x2 = 0 then (
            Option.bind (ck ((((σ 0 8) * 10) + a2) - 48)) fun v3 =>
            pf σ 0 8 v3 fun σ4 =>
            Option.bind (ck ((σ4 0 7) + 1)) fun v5 =>
            pf σ4 0 7 v5 fun σ6 =>
            if 100 ≤ σ6 0 8 then (
              some (0, σ6)) else (
              some (1, σ6))) else (
            some (0, σ))))) fun j1 =>
    if σ 0 7 ≤ 0 then (
      j1 0) else (
      if σ 0 8 ≠ 0 then (
        j1 0) else (
        j1 1))) else (
    if σ 0 7 ≤ 0 then (
      some (0, σ)) else (
      Option.bind (ck (a1 + 1)) fun v7 =>
      bd2 (f_X2_startText σ v7) fun r8 σ9 =>
      if r8 = 0 then (
        some (0, σ9)) else (
        some (1, σ9))))
def f_X2_read_L11 (j3 : Blk → Option (Int × Blk)) : Nat → Int → Blk → Option (Int × Blk)
  | 0, _, _ => none
  | n + 1, x5, σ6 =>
    if σ6 0 1 ≤ x5 then (
      j3 σ6) else (
      jp (fun (x8 : Int) (σ9 : Blk) => 
        if x8 ≠ 0 then (
          Option.bind (ck (x5 + 1)) fun v10 =>
          f_X2_read_L11 j3 n v10 σ9) else (
          some (x5, σ9))) fun j7 =>
      if σ6 0 6 = 0 then (
        Option.bind (ld σ6 1 80 x5) fun v11 =>
        bd2 (f_X2_readInKey σ6 x5 v11) fun r12 σ13 =>
        j7 r12 σ13) else (
        Option.bind (ld σ6 1 80 x5) fun v14 =>
        bd2 (f_X2_readInText σ6 v14) fun r15 σ16 =>
        j7 r15 σ16))
def f_X2_read (σ : Blk)  : Option (Int × Blk) :=
  pf σ 0 2 0 fun σ1 =>
  Option.bind (f_X2_awaitKey σ1) fun σ2 =>
  jp (fun (σ4 : Blk) => 
    if σ4 0 6 = 0 then (
      some (σ4 0 1, σ4)) else (
      some ((-1), σ4))) fun j3 =>
  f_X2_read_L11 j3 fu 0 σ2
def f_X3_init : Option Blk :=
  Option.bind (f_J7_fill_53178 (fun _ _ => 0) 4 10 40) fun σ1 =>
  some σ1
def f_X0_init : Option Blk :=
  Option.bind g_X0_init fun β =>
  some (VW β)
def f_X2_init : Option Blk :=
  some (fun _ _ => 0)
def f_X1_init : Option Blk :=
  some iniH
def nB {α : Type} (B : Nat → Blk) (nb : Nat) (K : (Nat → Blk) → Nat → Option α) : Option α := f_X0_init.bind fun β => K (ub B nb β) (nb + 1)
def f_X1_record (σ : Blk) (B : Nat → Blk) (nb : Nat) (k1 : Nat) : Option (Up) :=
  Option.bind (ck ((σ 6 2) + (σ 6 1))) fun v1 =>
  Option.bind (rm_ v1 6) fun v2 =>
  Option.bind (ld σ 7 6 v2) fun v3 =>
  jp (fun (σ5 : Blk) (B6 : Nat → Blk) (N7 : Nat) => 
    Option.bind (ld σ5 7 6 v2) fun v8 =>
    gk v8 N7 fun q9 =>
    lk k1 N7 <|
    ne q9 k1 (
      cbU (f_X0_copyFrom (B6 q9) (B6 k1)) B6 q9 fun B10 =>
      if 6 ≤ σ5 6 1 then (
        Option.bind (ck ((σ5 6 2) + 1)) fun v11 =>
        Option.bind (rm_ v11 6) fun v12 =>
        pf σ5 6 2 v12 fun σ13 =>
        some (σ13, B10, N7)) else (
        Option.bind (ck ((σ5 6 1) + 1)) fun v14 =>
        pf σ5 6 1 v14 fun σ15 =>
        some (σ15, B10, N7)))) fun j4 =>
  if v3 < 0 then (
    nB B nb fun B16 N17 =>
    Option.bind (ck (nb : Int)) fun w19 =>
    Option.bind (sw σ 7 6 v2 w19) fun σ18 =>
    j4 σ18 B16 N17) else (
    j4 σ B nb)
def f_X1_giveBack (σ : Blk) (B : Nat → Blk) (nb : Nat) (k1 : Nat) : Option (Up) :=
  Option.bind (ck (((σ 6 2) + (σ 6 1)) - 1)) fun v1 =>
  Option.bind (rm_ v1 6) fun v2 =>
  if σ 6 1 ≤ 0 then (
    some (σ, B, nb)) else (
    Option.bind (ld σ 7 6 v2) fun v3 =>
    if v3 < 0 then (
      some (σ, B, nb)) else (
      Option.bind (ld σ 7 6 v2) fun v4 =>
      gk v4 nb fun q5 =>
      ne k1 q5 (
        cbU (f_X0_copyFrom (B k1) (B q5)) B k1 fun B6 =>
        Option.bind (ck ((σ 6 1) - 1)) fun v7 =>
        pf σ 6 1 v7 fun σ8 =>
        some (σ8, B6, nb))))
def f_X4_setHead (σ : Blk) (B : Nat → Blk) (nb : Nat) (a1 : Int) : Option (Int × Up) :=
  if a1 < 0 then (
    some ((-2), σ, B, nb)) else (
    if a1 ≤ 16 then (
      gk (σ 0 3) nb fun q1 =>
      bd3 (f_X1_record σ B nb q1) fun σ2 B3 N4 =>
      gk (σ2 0 3) N4 fun q5 =>
      nm (B3 q5 0 0) fun v6 =>
      gk (σ2 0 3) N4 fun q7 =>
      bp B3 q7 0 0 a1 fun B8 =>
      some (v6, σ2, B8, N4)) else (
      some ((-2), σ, B, nb)))
def f_X4_setPiece (σ : Blk) (B : Nat → Blk) (nb : Nat) (a1 : Int) : Option (Int × Up) :=
  if a1 < 1 then (
    some ((-2), σ, B, nb)) else (
    if a1 ≤ 12 then (
      gk (σ 0 3) nb fun q1 =>
      bd3 (f_X1_record σ B nb q1) fun σ2 B3 N4 =>
      gk (σ2 0 3) N4 fun q5 =>
      nm (B3 q5 0 1) fun v6 =>
      gk (σ2 0 3) N4 fun q7 =>
      bp B3 q7 0 1 a1 fun B8 =>
      some (v6, σ2, B8, N4)) else (
      some ((-2), σ, B, nb)))
def f_X4_set (σ : Blk) (B : Nat → Blk) (nb : Nat) (a1 : Int) (a2 : Int) : Option (Int × Up) :=
  if a1 ≠ 0 then (
    if a1 ≠ 1 then (
      some ((-2), σ, B, nb)) else (
      bd4 (f_X4_setPiece σ B nb a2) fun r4 σ1 B2 N3 =>
      some (r4, σ1, B2, N3))) else (
    bd4 (f_X4_setHead σ B nb a2) fun r8 σ5 B6 N7 =>
    some (r8, σ5, B6, N7))
def f_X4_takeTrial (σ : Blk) (B : Nat → Blk) (nb : Nat)  : Option (Up) :=
  gk (σ 0 3) nb fun q1 =>
  gk (σ 0 4) nb fun q2 =>
  pf σ 0 3 (q2 : Int) fun σ3 =>
  pf σ3 0 4 (q1 : Int) fun σ4 =>
  some (σ4, B, nb)
def f_X4_writePadRow_L49 (q4 : Nat) (r8 : Int) (v10 : Int) (j9 : Blk → (Nat → Blk) → Nat → Option (Int × Up)) : Nat → Int → Blk → (Nat → Blk) → Nat → Option (Int × Up)
  | 0, _, _, _, _ => none
  | n + 1, x16, σ17, B18, N19 =>
    lk q4 N19 <|
    Option.bind (ld (B18 q4) 8 30 r8) fun v20 =>
    if v20 ≤ x16 then (
      j9 σ17 B18 N19) else (
      gd r8 30 (
        Option.bind (ck (v10 + x16)) fun v22 =>
        Option.bind (ld σ17 2 80 v22) fun v23 =>
        Option.bind (ck (v23 - 97)) fun v24 =>
        bw B18 q4 (44 + r8.toNat) 40 x16 v24 fun B25 =>
        Option.bind (ck (x16 + 1)) fun v26 =>
        f_X4_writePadRow_L49 q4 r8 v10 j9 n v26 σ17 B25 N19))
def f_X4_writePadRow (σ : Blk) (B : Nat → Blk) (nb : Nat) (a1 : Int) : Option (Int × Up) :=
  gk (σ 0 4) nb fun q2 =>
  gk (σ 0 3) nb fun q3 =>
  ne q2 q3 (
    cbU (f_X0_copyFrom (B q2) (B q3)) B q2 fun B4 =>
    gk (σ 0 4) nb fun q5 =>
    Option.bind (ld σ 3 27 a1) fun v6 =>
    Option.bind (ld σ 5 27 a1) fun v1 =>
    cbW (f_X0_layRow (B4 q5) v6 v1) B4 q5 fun r8 B7 =>
    if r8 ≠ (-1) then (
      Option.bind (ld σ 4 27 a1) fun v10 =>
      jp (fun (σ10 : Blk) (B11 : Nat → Blk) (N12 : Nat) => 
        bd3 (f_X4_takeTrial σ10 B11 N12) fun σ13 B14 N15 =>
        some (1, σ13, B14, N15)) fun j9 =>
      f_X4_writePadRow_L49 q5 r8 v10 j9 fu 0 σ B7 nb) else (
      some (0, σ, B7, nb)))
def f_X4_write_L27 (j7 : Int → Blk → (Nat → Blk) → Nat → Option (Int × Up)) : Nat → Int → Blk → (Nat → Blk) → Nat → Option (Int × Up)
  | 0, _, _, _, _ => none
  | n + 1, x13, σ14, B15, N16 =>
    if σ14 1 2 ≤ x13 then (
      j7 x13 σ14 B15 N16) else (
      bd4 (f_X4_writePadRow σ14 B15 N16 x13) fun r20 σ17 B18 N19 =>
      if r20 = 0 then (
        j7 x13 σ17 B18 N19) else (
        Option.bind (ck (x13 + 1)) fun v21 =>
        f_X4_write_L27 j7 n v21 σ17 B18 N19))
def f_X4_write (σ : Blk) (B : Nat → Blk) (nb : Nat)  : Option (Int × Up) :=
  cpW (f_X2_read (opad σ)) σ fun r1 σ2 =>
  if r1 = (-1) then (
    gk (σ2 0 3) nb fun q3 =>
    bd3 (f_X1_record σ2 B nb q3) fun σ4 B5 N6 =>
    jp (fun (x8 : Int) (σ9 : Blk) (B10 : Nat → Blk) (N11 : Nat) => 
      pf σ9 1 1 0 fun σ12 =>
      some (x8, σ12, B10, N11)) fun j7 =>
    f_X4_write_L27 j7 fu 0 σ4 B5 N6) else (
    some ((-3), σ2, B, nb))
def f_X4_append (σ : Blk) (B : Nat → Blk) (nb : Nat) (a1 : Int) (a2 : Int) : Option (Int × Up) :=
  gk (σ 0 3) nb fun q1 =>
  Option.bind (f_X0_rowOf (B q1) a1) fun r2 =>
  if r2 ≠ (-1) then (
    if a2 < 0 then (
      some ((-2), σ, B, nb)) else (
      if a2 < 26 then (
        gk (σ 0 3) nb fun q3 =>
        Option.bind (ld (B q3) 8 30 r2) fun v4 =>
        if v4 < 40 then (
          gk (σ 0 4) nb fun q5 =>
          gk (σ 0 3) nb fun q6 =>
          ne q5 q6 (
            cbU (f_X0_copyFrom (B q5) (B q6)) B q5 fun B7 =>
            gk (σ 0 4) nb fun q8 =>
            Option.bind (ck (v4 + 1)) fun v9 =>
            cbW (f_X0_layRow (B7 q8) a1 v9) B7 q8 fun r11 B10 =>
            if r11 ≠ (-1) then (
              gk (σ 0 4) nb fun q12 =>
              gd r11 30 (
                bw B10 q12 (44 + r11.toNat) 40 v4 a2 fun B14 =>
                gk (σ 0 3) nb fun q15 =>
                bd3 (f_X1_record σ B14 nb q15) fun σ16 B17 N18 =>
                bd3 (f_X4_takeTrial σ16 B17 N18) fun σ19 B20 N21 =>
                Option.bind (ck (v4 + 1)) fun v22 =>
                some (v22, σ19, B20, N21))) else (
              some ((-5), σ, B10, nb)))) else (
          some ((-4), σ, B, nb))) else (
        some ((-2), σ, B, nb)))) else (
    some ((-1), σ, B, nb))
def f_X4_delete (σ : Blk) (B : Nat → Blk) (nb : Nat) (a1 : Int) : Option (Int × Up) :=
  gk (σ 0 3) nb fun q1 =>
  Option.bind (f_X0_rowOf (B q1) a1) fun r2 =>
  if r2 ≠ (-1) then (
    gk (σ 0 3) nb fun q3 =>
    bd3 (f_X1_record σ B nb q3) fun σ4 B5 N6 =>
    gk (σ4 0 3) N6 fun q7 =>
    Option.bind (f_X0_cellsOf (B5 q7) r2) fun r8 =>
    gk (σ4 0 3) N6 fun q9 =>
    cbU (f_X0_removeRow (B5 q9) r2) B5 q9 fun B10 =>
    some (r8, σ4, B10, N6)) else (
    some ((-1), σ, B, nb))
def f_X4_tryPacking (σ : Blk) (B : Nat → Blk) (nb : Nat) (a1 : Int) : Option (Int × Up) :=
  gk (σ 0 4) nb fun q1 =>
  gk (σ 0 3) nb fun q2 =>
  ne q1 q2 (
    cbU (f_X0_copyFrom (B q1) (B q2)) B q1 fun B3 =>
    gk (σ 0 4) nb fun q4 =>
    bp B3 q4 0 0 a1 fun B5 =>
    gk (σ 0 4) nb fun q6 =>
    cbW (f_X0_packAll (B5 q6)) B5 q6 fun r8 B7 =>
    Option.bind (ckB r8) fun _ =>
    some (r8, σ, B7, nb))
def f_X4_pack (σ : Blk) (B : Nat → Blk) (nb : Nat)  : Option (Int × Up) :=
  gk (σ 0 3) nb fun q1 =>
  bd4 (f_X4_tryPacking σ B nb (B q1 0 0)) fun r5 σ2 B3 N4 =>
  if r5 ≠ 0 then (
    gk (σ2 0 3) N4 fun q6 =>
    bd3 (f_X1_record σ2 B3 N4 q6) fun σ7 B8 N9 =>
    bd3 (f_X4_takeTrial σ7 B8 N9) fun σ10 B11 N12 =>
    gk (σ10 0 3) N12 fun q13 =>
    Option.bind (f_X3_pagesInUse (B11 q13)) fun r14 =>
    some (r14, σ10, B11, N12)) else (
    some ((-5), σ2, B3, N4))
def f_X4_row (σ : Blk) (B : Nat → Blk) (nb : Nat) (a1 : Int) (a2 : Int) : Option (Int) :=
  gk (σ 0 3) nb fun q1 =>
  Option.bind (f_X0_rowOf (B q1) a1) fun r2 =>
  if r2 ≠ (-1) then (
    if a2 = 0 then (
      gk (σ 0 3) nb fun q3 =>
      Option.bind (ld (B q3) 8 30 r2) fun v4 =>
      some v4) else
    if a2 = 1 then (
      gk (σ 0 3) nb fun q5 =>
      Option.bind (ld (B q5) 9 30 r2) fun v6 =>
      Option.bind (dv v6 40) fun v7 =>
      some v7) else
    if a2 = 2 then (
      gk (σ 0 3) nb fun q8 =>
      Option.bind (ld (B q8) 9 30 r2) fun v9 =>
      Option.bind (rm_ v9 40) fun v10 =>
      some v10) else
    if a2 = 3 then (
      gk (σ 0 3) nb fun q11 =>
      Option.bind (ld (B q11) 10 30 r2) fun v12 =>
      Option.bind (dv v12 40) fun v13 =>
      some v13) else
    if a2 = 4 then (
      gk (σ 0 3) nb fun q14 =>
      Option.bind (ld (B q14) 10 30 r2) fun v15 =>
      Option.bind (rm_ v15 40) fun v16 =>
      some v16) else
    if a2 = 5 then (
      gk (σ 0 3) nb fun q17 =>
      Option.bind (f_X0_hasMoved (B q17) r2) fun r18 =>
      if r18 = 0 then (
        some 0) else (
        some 1)) else
    if a2 = 6 then (
      gk (σ 0 3) nb fun q19 =>
      gk (σ 0 3) nb fun q20 =>
      Option.bind (ld (B q20) 10 30 r2) fun v21 =>
      Option.bind (ld (B q19) 4 400 v21) fun v22 =>
      Option.bind (ck (v22 - 2)) fun v23 =>
      some v23) else
    if a2 = 7 then (
      gk (σ 0 3) nb fun q24 =>
      Option.bind (ld (B q24) 11 30 r2) fun v25 =>
      some v25) else
    if a2 = 8 then (
      gk (σ 0 3) nb fun q26 =>
      Option.bind (f_X0_costOf (B q26) r2) fun r27 =>
      some r27) else
    if a2 = 9 then (
      gk (σ 0 3) nb fun q28 =>
      Option.bind (f_X0_cellsOf (B q28) r2) fun r29 =>
      some r29) else
    some ((-2))) else (
    some ((-1)))
def f_X4_letter (σ : Blk) (B : Nat → Blk) (nb : Nat) (a1 : Int) (a2 : Int) : Option (Int) :=
  gk (σ 0 3) nb fun q1 =>
  Option.bind (f_X0_rowOf (B q1) a1) fun r2 =>
  if r2 = (-1) then (
    some ((-1))) else (
    if a2 < 0 then (
      some ((-1))) else (
      gk (σ 0 3) nb fun q3 =>
      Option.bind (ld (B q3) 8 30 r2) fun v4 =>
      if a2 < v4 then (
        gk (σ 0 3) nb fun q5 =>
        gd r2 30 (
          Option.bind (ld (B q5) (44 + r2.toNat) 40 a2) fun v7 =>
          some v7)) else (
        some ((-1)))))
def f_X4_piece (σ : Blk) (B : Nat → Blk) (nb : Nat) (a1 : Int) (a2 : Int) (a3 : Int) : Option (Int) :=
  gk (σ 0 3) nb fun q1 =>
  Option.bind (f_X0_rowOf (B q1) a1) fun r2 =>
  if r2 = (-1) then (
    some ((-1))) else (
    if a2 < 0 then (
      some ((-1))) else (
      gk (σ 0 3) nb fun q3 =>
      Option.bind (ld (B q3) 11 30 r2) fun v4 =>
      if a2 < v4 then (
        gk (σ 0 3) nb fun q5 =>
        gd r2 30 (
          Option.bind (ld (B q5) (13 + r2.toNat) 40 a2) fun v7 =>
          if a3 = 0 then (
            Option.bind (dv v7 40) fun v8 =>
            some v8) else
          if a3 = 1 then (
            Option.bind (rm_ v7 40) fun v9 =>
            some v9) else
          if a3 = 2 then (
            gk (σ 0 3) nb fun q10 =>
            Option.bind (ld (B q10) 4 400 v7) fun v11 =>
            Option.bind (ck (v11 - 1)) fun v12 =>
            some v12) else
          some ((-2)))) else (
        some ((-1)))))
def f_X4_page (σ : Blk) (B : Nat → Blk) (nb : Nat) (a1 : Int) (a2 : Int) : Option (Int) :=
  if a1 < 0 then (
    some ((-1))) else (
    if a1 < 10 then (
      if a2 = 0 then (
        gk (σ 0 3) nb fun q1 =>
        Option.bind (ld (B q1) 5 10 a1) fun v2 =>
        some v2) else
      if a2 = 1 then (
        gk (σ 0 3) nb fun q3 =>
        Option.bind (f_X3_slotsOf (B q3) a1) fun r4 =>
        some r4) else
      if a2 = 2 then (
        gk (σ 0 3) nb fun q5 =>
        Option.bind (f_X3_thingsOn (B q5) a1 1) fun r6 =>
        some r6) else
      if a2 = 3 then (
        gk (σ 0 3) nb fun q7 =>
        Option.bind (f_X3_thingsOn (B q7) a1 2) fun r8 =>
        some r8) else
      if a2 = 4 then (
        gk (σ 0 3) nb fun q9 =>
        Option.bind (f_X3_thingsOn (B q9) a1 3) fun r10 =>
        some r10) else
      if a2 = 5 then (
        gk (σ 0 3) nb fun q11 =>
        Option.bind (f_X3_thingsOn (B q11) a1 0) fun r12 =>
        some r12) else
      some ((-2))) else (
      some ((-1))))
def f_X4_slot (σ : Blk) (B : Nat → Blk) (nb : Nat) (a1 : Int) (a2 : Int) (a3 : Int) : Option (Int) :=
  if a1 < 0 then (
    some ((-1))) else (
    if 10 ≤ a1 then (
      some ((-1))) else (
      if a2 < 0 then (
        some ((-1))) else (
        gk (σ 0 3) nb fun q1 =>
        Option.bind (f_X3_slotsOf (B q1) a1) fun r2 =>
        if a2 < r2 then (
          Option.bind (ck ((a1 * 40) + a2)) fun v3 =>
          if a3 = 0 then (
            gk (σ 0 3) nb fun q4 =>
            Option.bind (ld (B q4) 2 400 v3) fun v5 =>
            some v5) else
          if a3 = 1 then (
            gk (σ 0 3) nb fun q6 =>
            Option.bind (ld (B q6) 2 400 v3) fun v7 =>
            if v7 ≠ 0 then (
              gk (σ 0 3) nb fun q8 =>
              Option.bind (ld (B q8) 3 400 v3) fun v9 =>
              some v9) else (
              some ((-6)))) else
          if a3 = 2 then (
            gk (σ 0 3) nb fun q10 =>
            Option.bind (ld (B q10) 4 400 v3) fun v11 =>
            some v11) else
          some ((-2))) else (
          some ((-1))))))
def f_X4_count (σ : Blk) (B : Nat → Blk) (nb : Nat) (a1 : Int) : Option (Int) :=
  if a1 = 0 then (
    gk (σ 0 3) nb fun q1 =>
    some (B q1 0 2)) else
  if a1 = 1 then (
    gk (σ 0 3) nb fun q2 =>
    Option.bind (f_X3_pagesInUse (B q2)) fun r3 =>
    some r3) else
  if a1 = 2 then (
    gk (σ 0 3) nb fun q4 =>
    Option.bind (f_X3_thingsInAll (B q4) 3) fun r5 =>
    some r5) else
  if a1 = 3 then (
    gk (σ 0 3) nb fun q6 =>
    Option.bind (f_X3_thingsInAll (B q6) 2) fun r7 =>
    some r7) else
  if a1 = 4 then (
    gk (σ 0 3) nb fun q8 =>
    Option.bind (f_X3_freeInAll (B q8)) fun r9 =>
    some r9) else
  if a1 = 5 then (
    gk (σ 0 3) nb fun q10 =>
    Option.bind (f_X0_costInAll (B q10)) fun r11 =>
    some r11) else
  if a1 = 6 then (
    gk (σ 0 3) nb fun q12 =>
    Option.bind (f_X0_lettersInAll (B q12)) fun r13 =>
    some r13) else
  if a1 = 7 then (
    gk (σ 0 3) nb fun q14 =>
    if B q14 0 2 ≠ 0 then (
      gk (σ 0 3) nb fun q15 =>
      Option.bind (f_X0_greatestCost (B q15)) fun r16 =>
      some r16) else (
      some ((-6)))) else
  if a1 = 8 then (
    gk (σ 0 3) nb fun q17 =>
    some (B q17 0 0)) else
  if a1 = 9 then (
    gk (σ 0 3) nb fun q18 =>
    some (B q18 0 1)) else
  if a1 = 10 then (
    some (σ 1 1)) else
  if a1 = 11 then (
    some (σ 6 1)) else
  some ((-2))
def f_X4_key_L4 (σ : Blk) (B : Nat → Blk) (nb : Nat) (a1 : Int) : Nat → Int → Int → Option (Int)
  | 0, _, _ => none
  | n + 1, x1, x2 =>
    if 100 ≤ x2 then (
      some ((-1))) else (
      gk (σ 0 3) nb fun q3 =>
      Option.bind (f_X0_rowOf (B q3) x2) fun r4 =>
      jp (fun (x6 : Int) => 
        Option.bind (ck (x2 + 1)) fun v7 =>
        f_X4_key_L4 σ B nb a1 n x6 v7) fun j5 =>
      if r4 = (-1) then (
        j5 x1) else (
        if x1 ≠ a1 then (
          Option.bind (ck (x1 + 1)) fun v8 =>
          j5 v8) else (
          some x2)))
def f_X4_key (σ : Blk) (B : Nat → Blk) (nb : Nat) (a1 : Int) : Option (Int) :=
  f_X4_key_L4 σ B nb a1 fu 0 0
def f_X4_ifPacked (σ : Blk) (B : Nat → Blk) (nb : Nat) (a1 : Int) (a2 : Int) : Option (Int × Up) :=
  if a1 < 0 then (
    some ((-2), σ, B, nb)) else (
    if 16 < a1 then (
      some ((-2), σ, B, nb)) else (
      if a2 < 0 then (
        some ((-2), σ, B, nb)) else (
        if a2 ≤ 2 then (
          bd4 (f_X4_tryPacking σ B nb a1) fun r4 σ1 B2 N3 =>
          if r4 ≠ 0 then (
            if a2 ≠ 0 then (
              if a2 ≠ 1 then (
                gk (σ1 0 4) N3 fun q5 =>
                Option.bind (f_X3_thingsInAll (B2 q5) 2) fun r6 =>
                some (r6, σ1, B2, N3)) else (
                gk (σ1 0 4) N3 fun q7 =>
                Option.bind (f_X3_pagesInUse (B2 q7)) fun r8 =>
                some (r8, σ1, B2, N3))) else (
              gk (σ1 0 4) N3 fun q9 =>
              Option.bind (f_X0_costInAll (B2 q9)) fun r10 =>
              some (r10, σ1, B2, N3))) else (
            some ((-5), σ1, B2, N3))) else (
          some ((-2), σ, B, nb)))))
def f_X4_bestHead_L20  : Nat → Int → Int → Int → Blk → (Nat → Blk) → Nat → Option (Int × Up)
  | 0, _, _, _, _, _, _ => none
  | n + 1, x2, x3, x4, σ5, B6, N7 =>
    if 16 < x4 then (
      some (x2, σ5, B6, N7)) else (
      bd4 (f_X4_tryPacking σ5 B6 N7 x4) fun r11 σ8 B9 N10 =>
      jp (fun (x13 : Int) (x14 : Int) => 
        Option.bind (ck (x4 + 2)) fun v15 =>
        f_X4_bestHead_L20 n x13 x14 v15 σ8 B9 N10) fun j12 =>
      if r11 = 0 then (
        j12 x2 x3) else (
        gk (σ8 0 4) N10 fun q16 =>
        Option.bind (f_X0_costInAll (B9 q16)) fun r17 =>
        jp (
          j12 x4 r17) fun j18 =>
        if x2 = (-6) then (
          j18) else (
          if x3 ≤ r17 then (
            j12 x2 x3) else (
            j18))))
def f_X4_bestHead (σ : Blk) (B : Nat → Blk) (nb : Nat)  : Option (Int × Up) :=
  gk (σ 0 3) nb fun q1 =>
  if B q1 0 2 ≠ 0 then (
    f_X4_bestHead_L20 fu ((-6)) 0 0 σ B nb) else (
    some ((-6), σ, B, nb))
def f_X4_most_L16 (a1 : Int) : Nat → Int → Blk → (Nat → Blk) → Nat → Option (Int × Up)
  | 0, _, _, _, _ => none
  | n + 1, x1, σ2, B3, N4 =>
    if x1 < 0 then (
      some ((-6), σ2, B3, N4)) else (
      gk (σ2 0 4) N4 fun q5 =>
      gk (σ2 0 3) N4 fun q6 =>
      ne q5 q6 (
        cbU (f_X0_copyFrom (B3 q5) (B3 q6)) B3 q5 fun B7 =>
        gk (σ2 0 4) N4 fun q8 =>
        cbW (f_X0_layRow (B7 q8) a1 x1) B7 q8 fun r10 B9 =>
        if r10 = (-1) then (
          Option.bind (ck (x1 + (-1))) fun v11 =>
          f_X4_most_L16 a1 n v11 σ2 B9 N4) else (
          some (x1, σ2, B9, N4))))
def f_X4_most (σ : Blk) (B : Nat → Blk) (nb : Nat) (a1 : Int) : Option (Int × Up) :=
  if a1 < 0 then (
    some ((-2), σ, B, nb)) else (
    if a1 < 100 then (
      f_X4_most_L16 a1 fu 40 σ B nb) else (
      some ((-2), σ, B, nb)))
def f_X4_signOf (a1 : Int64) (a2 : Int) : Option (Int) :=
  some (iand (l2i (lushr a1 (8 * a2))) 255)
def f_X4_signsIn_L2 (a1 : Int64) (j1 : Int → Option (Int)) : Nat → Int → Option (Int)
  | 0, _ => none
  | n + 1, x5 =>
    if 8 ≤ x5 then (
      j1 x5) else (
      Option.bind (f_X4_signOf a1 x5) fun r6 =>
      if r6 = 0 then (
        j1 x5) else (
        Option.bind (f_X4_signOf a1 x5) fun r7 =>
        if r7 < 33 then (
          some 0) else (
          if r7 ≤ 126 then (
            Option.bind (ck (x5 + 1)) fun v8 =>
            f_X4_signsIn_L2 a1 j1 n v8) else (
            some 0))))
def f_X4_signsIn (a1 : Int64) : Option (Int) :=
  jp (fun (x2 : Int) => 
    jp (fun (x4 : Int) => 
      if x4 = 0 then (
        some x2) else (
        some 0)) fun j3 =>
    if 8 ≤ x2 then (
      j3 0) else (
      if lcmp (lushr a1 (8 * x2)) ((0 : Int64)) = 0 then (
        j3 0) else (
        j3 1))) fun j1 =>
  f_X4_signsIn_L2 a1 j1 fu 0
def f_X4_put_L34 (a1 : Int64) (j4 : Blk → (Nat → Blk) → Nat → Option (Int × Up)) : Nat → Int → Blk → (Nat → Blk) → Nat → Option (Int × Up)
  | 0, _, _, _, _ => none
  | n + 1, x8, σ9, B10, N11 =>
    if x8 < 0 then (
      j4 σ9 B10 N11) else (
      Option.bind (f_X4_signOf a1 x8) fun r12 =>
      Option.bind (sw σ9 2 80 (σ9 1 1) r12) fun σ13 =>
      Option.bind (ck ((σ13 1 1) + 1)) fun v14 =>
      pf σ13 1 1 v14 fun σ15 =>
      Option.bind (ck (x8 + (-1))) fun v16 =>
      f_X4_put_L34 a1 j4 n v16 σ15 B10 N11)
def f_X4_put (σ : Blk) (B : Nat → Blk) (nb : Nat) (a1 : Int64) : Option (Int × Up) :=
  Option.bind (f_X4_signsIn a1) fun r1 =>
  if r1 ≠ 0 then (
    Option.bind (ck ((σ 1 1) + r1)) fun v2 =>
    if v2 ≤ 80 then (
      Option.bind (ck (r1 - 1)) fun v3 =>
      jp (fun (σ5 : Blk) (B6 : Nat → Blk) (N7 : Nat) => 
        some (σ5 1 1, σ5, B6, N7)) fun j4 =>
      f_X4_put_L34 a1 j4 fu v3 σ B nb) else (
      some ((-4), σ, B, nb))) else (
    some ((-2), σ, B, nb))
def f_X4_wipe (σ : Blk) (B : Nat → Blk) (nb : Nat)  : Option (Int × Up) :=
  nm (σ 1 1) fun v1 =>
  pf σ 1 1 0 fun σ2 =>
  some (v1, σ2, B, nb)
def f_X4_fault (σ : Blk) (B : Nat → Blk) (nb : Nat)  : Option (Int × Up) :=
  cpW (f_X2_read (opad σ)) σ fun r1 σ2 =>
  if r1 ≠ (-1) then (
    some (r1, σ2, B, nb)) else (
    some ((-6), σ2, B, nb))
def f_X4_undo (σ : Blk) (B : Nat → Blk) (nb : Nat)  : Option (Int × Up) :=
  if σ 6 1 ≠ 0 then (
    gk (σ 0 3) nb fun q1 =>
    bd3 (f_X1_giveBack σ B nb q1) fun σ2 B3 N4 =>
    some (σ2 6 1, σ2, B3, N4)) else (
    some ((-5), σ, B, nb))
def f_X4_save (σ : Blk) (B : Nat → Blk) (nb : Nat) (a1 : Int) : Option (Int × Up) :=
  if a1 < 0 then (
    some ((-2), σ, B, nb)) else (
    if a1 < 2 then (
      Option.bind (ld σ 8 2 a1) fun v1 =>
      jp (fun (σ3 : Blk) (B4 : Nat → Blk) (N5 : Nat) => 
        Option.bind (ld σ3 8 2 a1) fun v6 =>
        gk v6 N5 fun q7 =>
        gk (σ3 0 3) N5 fun q8 =>
        ne q7 q8 (
          cbU (f_X0_copyFrom (B4 q7) (B4 q8)) B4 q7 fun B9 =>
          gk (σ3 0 3) N5 fun q10 =>
          some (B9 q10 0 2, σ3, B9, N5))) fun j2 =>
      if v1 < 0 then (
        nB B nb fun B11 N12 =>
        Option.bind (ck (nb : Int)) fun w14 =>
        Option.bind (sw σ 8 2 a1 w14) fun σ13 =>
        j2 σ13 B11 N12) else (
        j2 σ B nb)) else (
      some ((-2), σ, B, nb)))
def f_X4_restore (σ : Blk) (B : Nat → Blk) (nb : Nat) (a1 : Int) : Option (Int × Up) :=
  if a1 < 0 then (
    some ((-2), σ, B, nb)) else (
    if a1 < 2 then (
      Option.bind (ld σ 8 2 a1) fun v1 =>
      if v1 < 0 then (
        some ((-5), σ, B, nb)) else (
        gk (σ 0 3) nb fun q2 =>
        bd3 (f_X1_record σ B nb q2) fun σ3 B4 N5 =>
        gk (σ3 0 3) N5 fun q6 =>
        Option.bind (ld σ3 8 2 a1) fun v7 =>
        gk v7 N5 fun q8 =>
        ne q6 q8 (
          cbU (f_X0_copyFrom (B4 q6) (B4 q8)) B4 q6 fun B9 =>
          gk (σ3 0 3) N5 fun q10 =>
          some (B9 q10 0 2, σ3, B9, N5)))) else (
      some ((-2), σ, B, nb)))
def f_X4_init : Option (Blk × Blk × Blk) :=
  Option.bind f_X2_init fun π =>
  Option.bind f_X1_init fun η =>
  Option.bind f_X0_init fun β0 =>
  Option.bind f_X0_init fun β1 =>
  some (iniX π η, β0, β1)
