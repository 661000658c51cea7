def g_X0_copyFrom_L37 (τ : Blk) (j5 : Blk → Option (Blk)) : Nat → Int → Blk → Option (Blk)
  | 0, _, _ => none
  | n + 1, x8, σ9 =>
    if 30 ≤ x8 then (
      j5 σ9) else (
      gk x8 30 fun q10 =>
      gk x8 30 fun q11 =>
      jp (fun (σ13 : Blk) => 
        Option.bind (ck (x8 + 1)) fun v14 =>
        g_X0_copyFrom_L37 τ j5 n v14 σ13) fun j12 =>
      Option.bind (g_X7_copyFrom σ9 q10 τ q11) fun σ15 =>
      j12 σ15)
def g_X0_copyFrom (σ : Blk) (τ : Blk) : Option (Blk) :=
  pf σ 0 0 (τ 0 0) fun σ1 =>
  pf σ1 0 1 (τ 0 1) fun σ2 =>
  pf σ2 0 2 (τ 0 2) fun σ3 =>
  Option.bind (g_X3_copyFrom σ3 τ) fun σ4 =>
  jp (fun (σ6 : Blk) => 
    pk (cpB σ6 7 τ 7 100) fun σ7 =>
    some σ7) fun j5 =>
  g_X0_copyFrom_L37 τ j5 fu 0 σ4
def g_X0_rowOf (σ : Blk) (a1 : Int) : Option (Int) :=
  Option.bind (g_X4_at σ 7 100 a1) fun r1 =>
  if r1 < 0 then (
    some (-1)) else (
    if r1 < 30 then (
      gk r1 30 fun q2 =>
      some (q2 : Int)) else (
      some (-1)))
def g_X0_liftPieces_L2 (k1 : Nat) (j1 : Blk → Option (Blk)) : Nat → Int → Blk → Option (Blk)
  | 0, _, _ => none
  | n + 1, x4, σ5 =>
    if σ5 (8 + 3 * k1) 4 ≤ x4 then (
      j1 σ5) else (
      Option.bind (g_X4_at σ5 (9 + 3 * k1) 40 x4) fun r6 =>
      Option.bind (g_X3_vacate σ5 r6) fun σ7 =>
      Option.bind (ck (x4 + 1)) fun v8 =>
      g_X0_liftPieces_L2 k1 j1 n v8 σ7)
def g_X0_liftPieces (σ : Blk) (k1 : Nat) : Option (Blk) :=
  jp (fun (σ2 : Blk) => 
    pf σ2 (8 + 3 * k1) 4 0 fun σ3 =>
    some σ3) fun j1 =>
  g_X0_liftPieces_L2 k1 j1 fu 0 σ
def g_X0_headLetters (σ : Blk) (k1 : Nat) : Option (Int) :=
  some (imin (σ (8 + 3 * k1) 1) (σ 0 0))
def g_X0_headCells (σ : Blk) (k1 : Nat) : Option (Int) :=
  Option.bind (g_X0_headLetters σ k1) fun r1 =>
  Option.bind (ck (2 + r1)) fun v2 =>
  some v2
def g_X0_layHeadAgain (σ : Blk) (k1 : Nat) : Option (Int × Blk) :=
  Option.bind (g_X0_headCells σ k1) fun r1 =>
  Option.bind (dv (σ (8 + 3 * k1) 3) 40) fun v2 =>
  Option.bind (g_X3_hasRoom σ v2 r1) fun r3 =>
  if r3 = 0 then (
    Option.bind (g_X7_hasMoved σ k1) fun r4 =>
    if r4 ≠ 0 then (
      Option.bind (dv (σ (8 + 3 * k1) 2) 40) fun v5 =>
      Option.bind (ck (r1 - 1)) fun v6 =>
      Option.bind (g_X3_hasRoom σ v5 v6) fun r7 =>
      if r7 = 0 then (
        bd2 (g_X3_place σ 1 (σ (8 + 3 * k1) 0) r1) fun r8 σ9 =>
        some (r8, σ9)) else (
        Option.bind (g_X3_vacate σ (σ (8 + 3 * k1) 2)) fun σ10 =>
        Option.bind (g_X3_occupy σ10 (σ10 (8 + 3 * k1) 2) 1 (σ10 (8 + 3 * k1) 0) r1) fun σ11 =>
        some (σ11 (8 + 3 * k1) 2, σ11))) else (
      Option.bind (g_X3_occupy σ (σ (8 + 3 * k1) 2) 3 (σ (8 + 3 * k1) 0) 1) fun σ12 =>
      bd2 (g_X3_place σ12 1 (σ12 (8 + 3 * k1) 0) r1) fun r13 σ14 =>
      some (r13, σ14))) else (
    Option.bind (g_X3_occupy σ (σ (8 + 3 * k1) 3) 1 (σ (8 + 3 * k1) 0) r1) fun σ15 =>
    some (σ15 (8 + 3 * k1) 3, σ15))
def g_X0_layPieces_L18 (k1 : Nat) : Nat → Int → Int → Blk → Option (Int × Blk)
  | 0, _, _, _ => none
  | n + 1, x4, x5, σ6 =>
    if 40 ≤ x5 then (
      some (1, σ6)) else (
      if x4 ≤ 0 then (
        some (1, σ6)) else (
        nm (imin x4 (σ6 0 1)) fun v7 =>
        Option.bind (ck (1 + v7)) fun v8 =>
        bd2 (g_X3_place σ6 2 (σ6 (8 + 3 * k1) 0) v8) fun r9 σ10 =>
        if r9 ≠ (-1) then (
          Option.bind (g_X4_store σ10 (9 + 3 * k1) 40 x5 r9) fun σ11 =>
          Option.bind (ck ((σ11 (8 + 3 * k1) 4) + 1)) fun v12 =>
          pf σ11 (8 + 3 * k1) 4 v12 fun σ13 =>
          Option.bind (ck (x4 - v7)) fun v14 =>
          Option.bind (ck (x5 + 1)) fun v15 =>
          g_X0_layPieces_L18 k1 n v14 v15 σ13) else (
          some (0, σ10))))
def g_X0_layPieces (σ : Blk) (k1 : Nat) : Option (Int × Blk) :=
  Option.bind (g_X0_headLetters σ k1) fun r1 =>
  Option.bind (ck ((σ (8 + 3 * k1) 1) - r1)) fun v2 =>
  pf σ (8 + 3 * k1) 4 0 fun σ3 =>
  g_X0_layPieces_L18 k1 fu v2 0 σ3
def g_X0_layAgain (σ : Blk) (k1 : Nat) : Option (Int × Blk) :=
  Option.bind (g_X0_liftPieces σ k1) fun σ1 =>
  Option.bind (g_X3_vacate σ1 (σ1 (8 + 3 * k1) 3)) fun σ2 =>
  bd2 (g_X0_layHeadAgain σ2 k1) fun r3 σ4 =>
  pf σ4 (8 + 3 * k1) 3 r3 fun σ5 =>
  if σ5 (8 + 3 * k1) 3 = (-1) then (
    some (0, σ5)) else (
    bd2 (g_X0_layPieces σ5 k1) fun r6 σ7 =>
    if r6 = 0 then (
      some (0, σ7)) else (
      some (1, σ7)))
def g_X0_addRow_L2 (σ : Blk) (a1 : Int) : Nat → Int → Option (Int × Blk)
  | 0, _ => none
  | n + 1, x1 =>
    if 30 ≤ x1 then (
      some ((-1), σ)) else (
      gk x1 30 fun q2 =>
      jp (
        Option.bind (ck (x1 + 1)) fun v4 =>
        g_X0_addRow_L2 σ a1 n v4) fun j3 =>
      if σ (8 + 3 * q2) 0 ≠ (-1) then (
        j3) else (
        pf σ (8 + 3 * q2) 0 a1 fun σ5 =>
        Option.bind (g_X4_store σ5 7 100 a1 x1) fun σ6 =>
        Option.bind (ck ((σ6 0 2) + 1)) fun v7 =>
        pf σ6 0 2 v7 fun σ8 =>
        some ((q2 : Int), σ8)))
def g_X0_addRow (σ : Blk) (a1 : Int) : Option (Int × Blk) :=
  g_X0_addRow_L2 σ a1 fu 0
def g_X0_layNew (σ : Blk) (k1 : Nat) : Option (Int × Blk) :=
  Option.bind (g_X0_headCells σ k1) fun r1 =>
  bd2 (g_X3_place σ 1 (σ (8 + 3 * k1) 0) r1) fun r2 σ3 =>
  pf σ3 (8 + 3 * k1) 2 r2 fun σ4 =>
  pf σ4 (8 + 3 * k1) 3 (σ4 (8 + 3 * k1) 2) fun σ5 =>
  if σ5 (8 + 3 * k1) 3 = (-1) then (
    some (0, σ5)) else (
    bd2 (g_X0_layPieces σ5 k1) fun r6 σ7 =>
    if r6 = 0 then (
      some (0, σ7)) else (
      some (1, σ7)))
def g_X0_layRow (σ : Blk) (a1 : Int) (a2 : Int) : Option (Int × Blk) :=
  Option.bind (g_X0_rowOf σ a1) fun r1 =>
  if r1 < 0 then (
    bd2 (g_X0_addRow σ a1) fun r2 σ3 =>
    if r2 < 0 then (
      some ((-1), σ3)) else (
      gk r2 30 fun q4 =>
      pf σ3 (8 + 3 * q4) 1 a2 fun σ5 =>
      bd2 (g_X0_layNew σ5 q4) fun r6 σ7 =>
      if r6 = 0 then (
        some ((-1), σ7)) else (
        some ((q4 : Int), σ7)))) else (
    gk r1 30 fun q8 =>
    pf σ (8 + 3 * q8) 1 a2 fun σ9 =>
    bd2 (g_X0_layAgain σ9 q8) fun r10 σ11 =>
    if r10 = 0 then (
      some ((-1), σ11)) else (
      some ((q8 : Int), σ11)))
def g_X0_removeRow (σ : Blk) (k1 : Nat) : Option (Blk) :=
  Option.bind (g_X0_liftPieces σ k1) fun σ1 =>
  Option.bind (g_X3_vacate σ1 (σ1 (8 + 3 * k1) 3)) fun σ2 =>
  Option.bind (g_X7_hasMoved σ2 k1) fun r3 =>
  jp (fun (σ5 : Blk) => 
    Option.bind (g_X4_store σ5 7 100 (σ5 (8 + 3 * k1) 0) ((-1))) fun σ6 =>
    pf σ6 (8 + 3 * k1) 0 ((-1)) fun σ7 =>
    Option.bind (ck ((σ7 0 2) - 1)) fun v8 =>
    pf σ7 0 2 v8 fun σ9 =>
    some σ9) fun j4 =>
  if r3 = 0 then (
    j4 σ2) else (
    Option.bind (g_X3_vacate σ2 (σ2 (8 + 3 * k1) 2)) fun σ10 =>
    j4 σ10)
def g_X0_packAll_L9  : Nat → Int → Blk → Option (Int × Blk)
  | 0, _, _ => none
  | n + 1, x2, σ3 =>
    if 100 ≤ x2 then (
      some (1, σ3)) else (
      Option.bind (g_X0_rowOf σ3 x2) fun r4 =>
      jp (fun (σ6 : Blk) => 
        Option.bind (ck (x2 + 1)) fun v7 =>
        g_X0_packAll_L9 n v7 σ6) fun j5 =>
      if r4 < 0 then (
        j5 σ3) else (
        gk r4 30 fun q8 =>
        bd2 (g_X0_layNew σ3 q8) fun r9 σ10 =>
        if r9 ≠ 0 then (
          j5 σ10) else (
          some (0, σ10))))
def g_X0_packAll (σ : Blk)  : Option (Int × Blk) :=
  Option.bind (g_X3_clear σ) fun σ1 =>
  g_X0_packAll_L9 fu 0 σ1
def g_X0_cellsOf_L17 (σ : Blk) (k1 : Nat) (j2 : Int → Option (Int)) : Nat → Int → Int → Option (Int)
  | 0, _, _ => none
  | n + 1, x6, x7 =>
    if σ (8 + 3 * k1) 4 ≤ x7 then (
      j2 x6) else (
      Option.bind (g_X4_at σ (9 + 3 * k1) 40 x7) fun r8 =>
      Option.bind (g_X4_at σ 4 400 r8) fun r9 =>
      Option.bind (ck (x6 + r9)) fun v10 =>
      Option.bind (ck (x7 + 1)) fun v11 =>
      g_X0_cellsOf_L17 σ k1 j2 n v10 v11)
def g_X0_cellsOf (σ : Blk) (k1 : Nat) : Option (Int) :=
  Option.bind (g_X4_at σ 4 400 (σ (8 + 3 * k1) 3)) fun r1 =>
  jp (fun (x3 : Int) => 
    Option.bind (g_X7_hasMoved σ k1) fun r4 =>
    if r4 = 0 then (
      some x3) else (
      Option.bind (ck (x3 + 1)) fun v5 =>
      some v5)) fun j2 =>
  g_X0_cellsOf_L17 σ k1 j2 fu r1 0
def g_X0_costInAll_L4 (σ : Blk) : Nat → Int → Int → Option (Int)
  | 0, _, _ => none
  | n + 1, x1, x2 =>
    if 100 ≤ x2 then (
      some x1) else (
      Option.bind (g_X0_rowOf σ x2) fun r3 =>
      jp (fun (x5 : Int) => 
        Option.bind (ck (x2 + 1)) fun v6 =>
        g_X0_costInAll_L4 σ n x5 v6) fun j4 =>
      if r3 < 0 then (
        j4 x1) else (
        gk r3 30 fun q7 =>
        Option.bind (g_X7_cost σ q7) fun r8 =>
        Option.bind (ck (x1 + r8)) fun v9 =>
        j4 v9))
def g_X0_costInAll (σ : Blk)  : Option (Int) :=
  g_X0_costInAll_L4 σ fu 0 0
def g_X0_greatestCost_L4 (σ : Blk) : Nat → Int → Int → Option (Int)
  | 0, _, _ => none
  | n + 1, x1, x2 =>
    if 100 ≤ x2 then (
      some x1) else (
      Option.bind (g_X0_rowOf σ x2) fun r3 =>
      jp (fun (x5 : Int) => 
        Option.bind (ck (x2 + 1)) fun v6 =>
        g_X0_greatestCost_L4 σ n x5 v6) fun j4 =>
      if r3 < 0 then (
        j4 x1) else (
        gk r3 30 fun q7 =>
        Option.bind (g_X7_cost σ q7) fun r8 =>
        nm (imax x1 r8) fun v9 =>
        j4 v9))
def g_X0_greatestCost (σ : Blk)  : Option (Int) :=
  g_X0_greatestCost_L4 σ fu 0 0
def g_X0_lettersInAll_L4 (σ : Blk) : Nat → Int → Int → Option (Int)
  | 0, _, _ => none
  | n + 1, x1, x2 =>
    if 100 ≤ x2 then (
      some x1) else (
      Option.bind (g_X0_rowOf σ x2) fun r3 =>
      jp (fun (x5 : Int) => 
        Option.bind (ck (x2 + 1)) fun v6 =>
        g_X0_lettersInAll_L4 σ n x5 v6) fun j4 =>
      if r3 < 0 then (
        j4 x1) else (
        gk r3 30 fun q7 =>
        Option.bind (ck (x1 + (σ (8 + 3 * q7) 1))) fun v8 =>
        j4 v8))
def g_X0_lettersInAll (σ : Blk)  : Option (Int) :=
  g_X0_lettersInAll_L4 σ fu 0 0
