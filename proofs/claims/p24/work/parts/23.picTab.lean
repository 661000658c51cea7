def g_L_low (a1 : Int) (a2 : Int) : Option (Int) :=
  Option.bind (fm (iand a1 2147483647) a2) fun v1 =>
  some v1
def g_L_cells (a1 : Int) : Option (Int) :=
  nm (iand (ishr a1 14) 3) fun v1 =>
  if v1 ≠ 3 then (
    Option.bind (ck ((3 - v1) + (iand a1 31))) fun v2 =>
    some v2) else (
    some 1)
def g_L_free_L6 (σ : Blk) (a1 : Int) (i2 : Nat) (n2 : Nat) (a3 : Int) : Nat → Int → Int → Option (Int)
  | 0, _, _ => none
  | n + 1, x1, x2 =>
    if a3 ≤ x2 then (
      some x1) else (
      Option.bind (ld σ i2 n2 x2) fun v3 =>
      Option.bind (dv (ishr v3 16) 40) fun v4 =>
      jp (fun (x6 : Int) => 
        Option.bind (ck (x1 - x6)) fun v7 =>
        Option.bind (ck (x2 + 1)) fun v8 =>
        g_L_free_L6 σ a1 i2 n2 a3 n v7 v8) fun j5 =>
      if v4 ≠ a1 then (
        j5 0) else (
        Option.bind (ld σ i2 n2 x2) fun v9 =>
        Option.bind (g_L_cells v9) fun r10 =>
        j5 r10))
def g_L_free (σ : Blk) (a1 : Int) (i2 n2 : Nat) (a3 : Int) : Option (Int) :=
  g_L_free_L6 σ a1 i2 n2 a3 fu 40 0
def g_L_at_L2 (σ : Blk) (a1 : Int) (i2 : Nat) (n2 : Nat) (a3 : Int) : Nat → Int → Option (Int)
  | 0, _ => none
  | n + 1, x1 =>
    if a3 ≤ x1 then (
      some ((-1))) else (
      Option.bind (ld σ i2 n2 x1) fun v2 =>
      if ishr v2 16 ≠ a1 then (
        Option.bind (ck (x1 + 1)) fun v3 =>
        g_L_at_L2 σ a1 i2 n2 a3 n v3) else (
        some x1))
def g_L_at (σ : Blk) (a1 : Int) (i2 n2 : Nat) (a3 : Int) : Option (Int) :=
  g_L_at_L2 σ a1 i2 n2 a3 fu 0
def g_L_find_L3 (σ : Blk) (a1 : Int) (a2 : Int) (a3 : Int) (i4 : Nat) (n4 : Nat) (a5 : Int) : Nat → Int → Option (Int)
  | 0, _ => none
  | n + 1, x1 =>
    if a5 ≤ x1 then (
      some ((-1))) else (
      Option.bind (ld σ i4 n4 x1) fun v2 =>
      jp (
        Option.bind (ck (x1 + 1)) fun v4 =>
        g_L_find_L3 σ a1 a2 a3 i4 n4 a5 n v4) fun j3 =>
      if iand (ishr v2 14) 3 ≠ a1 then (
        j3) else (
        Option.bind (ld σ i4 n4 x1) fun v5 =>
        if iand (ishr v5 11) 7 ≠ a2 then (
          j3) else (
          Option.bind (ld σ i4 n4 x1) fun v6 =>
          if iand (ishr v6 5) 63 ≠ a3 then (
            j3) else (
            some x1))))
def g_L_find (σ : Blk) (a1 : Int) (a2 : Int) (a3 : Int) (i4 n4 : Nat) (a5 : Int) : Option (Int) :=
  g_L_find_L3 σ a1 a2 a3 i4 n4 a5 fu 0
def g_L_add (σ : Blk) (a1 : Int) (a2 : Int) (a3 : Int) (a4 : Int) (a5 : Int) (i6 n6 : Nat) (i7 n7 : Nat) : Option (Blk) :=
  Option.bind (ld σ i7 n7 3) fun v1 =>
  Option.bind (ck (v1 + 1)) fun v2 =>
  Option.bind (sw σ i7 n7 3 v2) fun σ3 =>
  Option.bind (sw σ3 i6 n6 v1 (iorr (iorr (iorr (iorr (ishl a1 16) (ishl a2 14)) (ishl a3 11)) (ishl a4 5)) a5)) fun σ4 =>
  some σ4
def g_L_drop (σ : Blk) (a1 : Int) (i2 n2 : Nat) (i3 n3 : Nat) : Option (Blk) :=
  if a1 < 0 then (
    some σ) else (
    Option.bind (ld σ i3 n3 3) fun v1 =>
    Option.bind (ck (v1 - 1)) fun v2 =>
    Option.bind (sw σ i3 n3 3 v2) fun σ3 =>
    Option.bind (ld σ3 i2 n2 (v1 - 1)) fun v4 =>
    Option.bind (sw σ3 i2 n2 a1 v4) fun σ5 =>
    some σ5)
def g_L_room_L24 (σ : Blk) (i2 : Nat) (n2 : Nat) (a3 : Int) (x1 : Int) (j3 : Int → Option (Int)) : Nat → Int → Option (Int)
  | 0, _ => none
  | n + 1, x6 =>
    Option.bind (ck ((40 * x1) + x6)) fun v7 =>
    Option.bind (g_L_at σ v7 i2 n2 a3) fun r8 =>
    if r8 < 0 then (
      j3 x6) else (
      Option.bind (ck (x6 + 1)) fun v9 =>
      g_L_room_L24 σ i2 n2 a3 x1 j3 n v9)
def g_L_room_L2 (σ : Blk) (a1 : Int) (i2 : Nat) (n2 : Nat) (a3 : Int) : Nat → Int → Option (Int)
  | 0, _ => none
  | n + 1, x1 =>
    if 10 ≤ x1 then (
      some ((-1))) else (
      Option.bind (g_L_free σ x1 i2 n2 a3) fun r2 =>
      if a1 ≤ r2 then (
        jp (fun (x4 : Int) => 
          Option.bind (ck ((40 * x1) + x4)) fun v5 =>
          some v5) fun j3 =>
        g_L_room_L24 σ i2 n2 a3 x1 j3 fu 0) else (
        Option.bind (ck (x1 + 1)) fun v10 =>
        g_L_room_L2 σ a1 i2 n2 a3 n v10))
def g_L_room (σ : Blk) (a1 : Int) (i2 n2 : Nat) (a3 : Int) : Option (Int) :=
  g_L_room_L2 σ a1 i2 n2 a3 fu 0
def g_L_write_L304 (a1 : Int) (i4 : Nat) (n4 : Nat) (i6 : Nat) (n6 : Nat) : Nat → Int → Int → Blk → Option (Int × Blk)
  | 0, _, _, _ => none
  | n + 1, x12, x13, σ14 =>
    if x13 ≤ 0 then (
      some (1, σ14)) else (
      Option.bind (ld σ14 i4 n4 1) fun v15 =>
      jp (fun (x17 : Int) => 
        Option.bind (ld σ14 i4 n4 3) fun v18 =>
        Option.bind (ck (1 + x17)) fun v19 =>
        Option.bind (g_L_room σ14 v19 i6 n6 v18) fun r20 =>
        if 0 ≤ r20 then (
          Option.bind (ck (x12 + 1)) fun v21 =>
          Option.bind (g_L_add σ14 r20 2 a1 x12 x17 i6 n6 i4 n4) fun σ22 =>
          Option.bind (ld σ22 i4 n4 1) fun v23 =>
          Option.bind (ck (x13 - v23)) fun v24 =>
          g_L_write_L304 a1 i4 n4 i6 n6 n v21 v24 σ22) else (
          some (0, σ14))) fun j16 =>
      if v15 ≤ x13 then (
        Option.bind (ld σ14 i4 n4 1) fun v25 =>
        j16 v25) else (
        j16 x13))
def g_L_write_L54 (a1 : Int) (i4 : Nat) (n4 : Nat) (i6 : Nat) (n6 : Nat) (j26 : Blk → Option (Int × Blk)) : Nat → Int → Blk → Option (Int × Blk)
  | 0, _, _ => none
  | n + 1, x56, σ57 =>
    if 41 ≤ x56 then (
      j26 σ57) else (
      Option.bind (ld σ57 i4 n4 3) fun v58 =>
      Option.bind (g_L_find σ57 2 a1 x56 i6 n6 v58) fun r59 =>
      Option.bind (g_L_drop σ57 r59 i6 n6 i4 n4) fun σ60 =>
      Option.bind (ck (x56 + 1)) fun v61 =>
      g_L_write_L54 a1 i4 n4 i6 n6 j26 n v61 σ60)
def g_L_write (σ : Blk) (a1 : Int) (a2 : Int) (a3 : Int) (i4 n4 : Nat) (i5 n5 : Nat) (i6 n6 : Nat) : Option (Int × Blk) :=
  Option.bind (ld σ i4 n4 0) fun v1 =>
  jp (fun (x3 : Int) => 
    Option.bind (ck (4 * a1)) fun v4 =>
    jp (fun (x6 : Int) (σ7 : Blk) => 
      if 0 ≤ x6 then (
        Option.bind (g_L_add σ7 x6 1 a1 0 x3 i6 n6 i4 n4) fun σ8 =>
        Option.bind (sw σ8 i5 n5 (v4 + 1) a2) fun σ9 =>
        Option.bind (sw σ9 i5 n5 (v4 + 3) x6) fun σ10 =>
        Option.bind (ck (a2 - x3)) fun v11 =>
        g_L_write_L304 a1 i4 n4 i6 n6 fu 0 v11 σ10) else (
        some (0, σ7))) fun j5 =>
    if a3 = 0 then (
      jp (fun (σ27 : Blk) => 
        Option.bind (ld σ27 i4 n4 3) fun v28 =>
        Option.bind (g_L_find σ27 1 a1 0 i6 n6 v28) fun r29 =>
        Option.bind (g_L_drop σ27 r29 i6 n6 i4 n4) fun σ30 =>
        Option.bind (ld σ30 i5 n5 (v4 + 3)) fun v31 =>
        Option.bind (dv v31 40) fun v32 =>
        Option.bind (ld σ30 i4 n4 3) fun v33 =>
        Option.bind (g_L_free σ30 v32 i6 n6 v33) fun r34 =>
        Option.bind (ck (2 + x3)) fun v35 =>
        if r34 < v35 then (
          Option.bind (ld σ30 i5 n5 (v4 + 3)) fun v36 =>
          Option.bind (ld σ30 i5 n5 (v4 + 2)) fun v37 =>
          if v36 ≠ v37 then (
            Option.bind (ld σ30 i5 n5 (v4 + 2)) fun v38 =>
            Option.bind (dv v38 40) fun v39 =>
            Option.bind (ld σ30 i4 n4 3) fun v40 =>
            Option.bind (g_L_free σ30 v39 i6 n6 v40) fun r41 =>
            Option.bind (ck (1 + x3)) fun v42 =>
            if r41 < v42 then (
              Option.bind (ld σ30 i4 n4 3) fun v43 =>
              Option.bind (ck (2 + x3)) fun v44 =>
              Option.bind (g_L_room σ30 v44 i6 n6 v43) fun r45 =>
              j5 r45 σ30) else (
              Option.bind (ld σ30 i4 n4 3) fun v46 =>
              Option.bind (g_L_find σ30 3 a1 0 i6 n6 v46) fun r47 =>
              Option.bind (g_L_drop σ30 r47 i6 n6 i4 n4) fun σ48 =>
              Option.bind (ld σ48 i5 n5 (v4 + 2)) fun v49 =>
              j5 v49 σ48)) else (
            Option.bind (ld σ30 i5 n5 (v4 + 2)) fun v50 =>
            Option.bind (g_L_add σ30 v50 3 a1 0 0 i6 n6 i4 n4) fun σ51 =>
            Option.bind (ld σ51 i4 n4 3) fun v52 =>
            Option.bind (ck (2 + x3)) fun v53 =>
            Option.bind (g_L_room σ51 v53 i6 n6 v52) fun r54 =>
            j5 r54 σ51)) else (
          Option.bind (ld σ30 i5 n5 (v4 + 3)) fun v55 =>
          j5 v55 σ30)) fun j26 =>
      g_L_write_L54 a1 i4 n4 i6 n6 j26 fu 0 σ) else (
      Option.bind (ld σ i4 n4 3) fun v62 =>
      Option.bind (ck (2 + x3)) fun v63 =>
      Option.bind (g_L_room σ v63 i6 n6 v62) fun r64 =>
      Option.bind (sw σ i5 n5 (v4 + 2) r64) fun σ65 =>
      j5 r64 σ65)) fun j2 =>
  if v1 ≤ a2 then (
    Option.bind (ld σ i4 n4 0) fun v66 =>
    j2 v66) else (
    j2 a2)
def g_L_rowOf_L2 (σ : Blk) (a1 : Int) (i2 : Nat) (n2 : Nat) : Nat → Int → Option (Int)
  | 0, _ => none
  | n + 1, x1 =>
    if 6 ≤ x1 then (
      some ((-1))) else (
      Option.bind (ld σ i2 n2 ((4 * x1) + 1)) fun v2 =>
      jp (
        Option.bind (ck (x1 + 1)) fun v4 =>
        g_L_rowOf_L2 σ a1 i2 n2 n v4) fun j3 =>
      if v2 < 0 then (
        j3) else (
        Option.bind (ld σ i2 n2 (4 * x1)) fun v5 =>
        if v5 ≠ a1 then (
          j3) else (
          some x1)))
def g_L_rowOf (σ : Blk) (a1 : Int) (i2 n2 : Nat) : Option (Int) :=
  g_L_rowOf_L2 σ a1 i2 n2 fu 0
def g_L_pack_L6 (i1 : Nat) (n1 : Nat) (i2 : Nat) (n2 : Nat) (i3 : Nat) (n3 : Nat) : Nat → Int → Blk → Option (Int × Blk)
  | 0, _, _ => none
  | n + 1, x2, σ3 =>
    if 100 ≤ x2 then (
      some (1, σ3)) else (
      Option.bind (g_L_rowOf σ3 x2 i2 n2) fun r4 =>
      jp (fun (σ6 : Blk) => 
        Option.bind (ck (x2 + 1)) fun v7 =>
        g_L_pack_L6 i1 n1 i2 n2 i3 n3 n v7 σ6) fun j5 =>
      if r4 < 0 then (
        j5 σ3) else (
        Option.bind (ld σ3 i2 n2 ((4 * r4) + 1)) fun v8 =>
        bd2 (g_L_write σ3 r4 v8 1 i1 n1 i2 n2 i3 n3) fun r9 σ10 =>
        if r9 ≠ 0 then (
          j5 σ10) else (
          some (0, σ10))))
def g_L_pack (σ : Blk) (i1 n1 : Nat) (i2 n2 : Nat) (i3 n3 : Nat) : Option (Int × Blk) :=
  Option.bind (sw σ i1 n1 3 0) fun σ1 =>
  g_L_pack_L6 i1 n1 i2 n2 i3 n3 fu 0 σ1
def g_L_pieces_L2 (σ : Blk) (a1 : Int) (i2 : Nat) (n2 : Nat) (a3 : Int) : Nat → Int → Option (Int)
  | 0, _ => none
  | n + 1, x1 =>
    Option.bind (g_L_find σ 2 a1 x1 i2 n2 a3) fun r2 =>
    if r2 < 0 then (
      some x1) else (
      Option.bind (ck (x1 + 1)) fun v3 =>
      g_L_pieces_L2 σ a1 i2 n2 a3 n v3)
def g_L_pieces (σ : Blk) (a1 : Int) (i2 n2 : Nat) (a3 : Int) : Option (Int) :=
  g_L_pieces_L2 σ a1 i2 n2 a3 fu 0
def g_L_cost_L18 (σ : Blk) (a1 : Int) (i2 : Nat) (n2 : Nat) (i3 : Nat) (n3 : Nat) (a4 : Int) : Nat → Int → Int → Int → Option (Int)
  | 0, _, _, _ => none
  | n + 1, x3, x4, x5 =>
    Option.bind (g_L_pieces σ a1 i3 n3 a4) fun r6 =>
    if r6 ≤ x5 then (
      some x4) else (
      jp (fun (x8 : Int) => 
        jp (fun (x10 : Int) => 
          Option.bind (ck (x4 + x10)) fun v11 =>
          Option.bind (ck (x5 + 1)) fun v12 =>
          g_L_cost_L18 σ a1 i2 n2 i3 n3 a4 n x8 v11 v12) fun j9 =>
        if x8 = x3 then (
          j9 0) else (
          j9 1)) fun j7 =>
      if 0 ≤ x5 then (
        Option.bind (g_L_find σ 2 a1 x5 i3 n3 a4) fun r13 =>
        Option.bind (ld σ i3 n3 r13) fun v14 =>
        Option.bind (dv (ishr v14 16) 40) fun v15 =>
        j7 v15) else (
        Option.bind (ld σ i2 n2 ((4 * a1) + 3)) fun v16 =>
        Option.bind (dv v16 40) fun v17 =>
        j7 v17))
def g_L_cost (σ : Blk) (a1 : Int) (i2 n2 : Nat) (i3 n3 : Nat) (a4 : Int) : Option (Int) :=
  Option.bind (ld σ i2 n2 ((4 * a1) + 2)) fun v1 =>
  Option.bind (dv v1 40) fun v2 =>
  g_L_cost_L18 σ a1 i2 n2 i3 n3 a4 fu v2 1 ((-1))
def g_L_costs_L5 (σ : Blk) (i1 : Nat) (n1 : Nat) (i2 : Nat) (n2 : Nat) (a3 : Int) : Nat → Int → Int → Option (Int)
  | 0, _, _ => none
  | n + 1, x1, x2 =>
    if 6 ≤ x2 then (
      some x1) else (
      Option.bind (ld σ i1 n1 ((4 * x2) + 1)) fun v3 =>
      jp (fun (x5 : Int) => 
        Option.bind (ck (x1 + x5)) fun v6 =>
        Option.bind (ck (x2 + 1)) fun v7 =>
        g_L_costs_L5 σ i1 n1 i2 n2 a3 n v6 v7) fun j4 =>
      if 0 ≤ v3 then (
        Option.bind (g_L_cost σ x2 i1 n1 i2 n2 a3) fun r8 =>
        j4 r8) else (
        j4 0))
def g_L_costs (σ : Blk) (i1 n1 : Nat) (i2 n2 : Nat) (a3 : Int) : Option (Int) :=
  g_L_costs_L5 σ i1 n1 i2 n2 a3 fu 0 0
def g_L_kinds_L5 (σ : Blk) (a1 : Int) (i2 : Nat) (n2 : Nat) (a3 : Int) : Nat → Int → Int → Option (Int)
  | 0, _, _ => none
  | n + 1, x1, x2 =>
    if a3 ≤ x2 then (
      some x1) else (
      Option.bind (ld σ i2 n2 x2) fun v3 =>
      jp (fun (x5 : Int) => 
        Option.bind (ck (x1 + x5)) fun v6 =>
        Option.bind (ck (x2 + 1)) fun v7 =>
        g_L_kinds_L5 σ a1 i2 n2 a3 n v6 v7) fun j4 =>
      if iand (ishr v3 14) 3 ≠ a1 then (
        j4 0) else (
        j4 1))
def g_L_kinds (σ : Blk) (a1 : Int) (i2 n2 : Nat) (a3 : Int) : Option (Int) :=
  g_L_kinds_L5 σ a1 i2 n2 a3 fu 0 0
def g_L_letter (σ : Blk) (a1 : Int) (a2 : Int) : Option (Int) :=
  Option.bind (dv a2 12) fun v1 =>
  Option.bind (ldL σ 6 12 ((2 * a1) + v1)) fun l2 =>
  Option.bind (rm_ a2 12) fun v3 =>
  some (iand (l2i (lshr l2 (5 * v3))) 31)
def g_L_copy_L51 (i3 : Nat) (n3 : Nat) (i6 : Nat) (n6 : Nat) : Nat → Int → Blk → Option (Blk)
  | 0, _, _ => none
  | n + 1, x5, σ6 =>
    if 64 ≤ x5 then (
      some σ6) else (
      Option.bind (ld σ6 i3 n3 x5) fun v7 =>
      Option.bind (sw σ6 i6 n6 x5 v7) fun σ8 =>
      Option.bind (ck (x5 + 1)) fun v9 =>
      g_L_copy_L51 i3 n3 i6 n6 n v9 σ8)
def g_L_copy_L26 (i2 : Nat) (n2 : Nat) (i5 : Nat) (n5 : Nat) (j3 : Blk → Option (Blk)) : Nat → Int → Blk → Option (Blk)
  | 0, _, _ => none
  | n + 1, x10, σ11 =>
    if 28 ≤ x10 then (
      j3 σ11) else (
      Option.bind (ld σ11 i2 n2 x10) fun v12 =>
      Option.bind (sw σ11 i5 n5 x10 v12) fun σ13 =>
      Option.bind (ck (x10 + 1)) fun v14 =>
      g_L_copy_L26 i2 n2 i5 n5 j3 n v14 σ13)
def g_L_copy_L3 (i1 : Nat) (n1 : Nat) (i4 : Nat) (n4 : Nat) (j1 : Blk → Option (Blk)) : Nat → Int → Blk → Option (Blk)
  | 0, _, _ => none
  | n + 1, x15, σ16 =>
    if 4 ≤ x15 then (
      j1 σ16) else (
      Option.bind (ld σ16 i1 n1 x15) fun v17 =>
      Option.bind (sw σ16 i4 n4 x15 v17) fun σ18 =>
      Option.bind (ck (x15 + 1)) fun v19 =>
      g_L_copy_L3 i1 n1 i4 n4 j1 n v19 σ18)
def g_L_copy (σ : Blk) (i1 n1 : Nat) (i2 n2 : Nat) (i3 n3 : Nat) (i4 n4 : Nat) (i5 n5 : Nat) (i6 n6 : Nat) : Option (Blk) :=
  jp (fun (σ2 : Blk) => 
    jp (fun (σ4 : Blk) => 
      g_L_copy_L51 i3 n3 i6 n6 fu 0 σ4) fun j3 =>
    g_L_copy_L26 i2 n2 i5 n5 j3 fu 0 σ2) fun j1 =>
  g_L_copy_L3 i1 n1 i4 n4 j1 fu 0 σ
