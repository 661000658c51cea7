def g_X1_record (σ : Blk) (B : Nat → Blk) (nb : Nat) (k1 : Nat) : Option (Up) :=
  Option.bind (ck ((σ 6 2) + (σ 6 1))) fun v1 =>
  Option.bind (fm v1 6) fun r2 =>
  Option.bind (ld σ 7 6 r2) fun v3 =>
  jp (fun (σ5 : Blk) (B6 : Nat → Blk) (N7 : Nat) => 
    Option.bind (ld σ5 7 6 r2) fun v8 =>
    gk v8 N7 fun q9 =>
    lk k1 N7 <|
    ne q9 k1 (
      cbU (g_X0_copyFrom (B6 q9) (B6 k1)) B6 q9 fun B10 =>
      if 6 ≤ σ5 6 1 then (
        Option.bind (ck ((σ5 6 2) + 1)) fun v11 =>
        Option.bind (rm_ v11 6) fun v12 =>
        pf σ5 6 2 v12 fun σ13 =>
        some (σ13, B10, N7)) else (
        Option.bind (ck ((σ5 6 1) + 1)) fun v14 =>
        pf σ5 6 1 v14 fun σ15 =>
        some (σ15, B10, N7)))) fun j4 =>
  if v3 < 0 then (
    nBn B nb fun B16 N17 =>
    Option.bind (ck (nb : Int)) fun w19 =>
    Option.bind (sw σ 7 6 r2 w19) fun σ18 =>
    j4 σ18 B16 N17) else (
    j4 σ B nb)
def g_X4_setHead (σ : Blk) (B : Nat → Blk) (nb : Nat) (a1 : Int) : Option (Int × Up) :=
  if a1 < 0 then (
    some ((-2), σ, B, nb)) else (
    if a1 ≤ 16 then (
      gk (σ 0 3) nb fun q1 =>
      bd3 (g_X1_record σ B nb q1) fun σ2 B3 N4 =>
      gk (σ2 0 3) N4 fun q5 =>
      nm (B3 q5 0 0) fun v6 =>
      gk (σ2 0 3) N4 fun q7 =>
      bp B3 q7 0 0 a1 fun B8 =>
      some (v6, σ2, B8, N4)) else (
      some ((-2), σ, B, nb)))
def g_X4_setPiece (σ : Blk) (B : Nat → Blk) (nb : Nat) (a1 : Int) : Option (Int × Up) :=
  if a1 < 1 then (
    some ((-2), σ, B, nb)) else (
    if a1 ≤ 12 then (
      gk (σ 0 3) nb fun q1 =>
      bd3 (g_X1_record σ B nb q1) fun σ2 B3 N4 =>
      gk (σ2 0 3) N4 fun q5 =>
      nm (B3 q5 0 1) fun v6 =>
      gk (σ2 0 3) N4 fun q7 =>
      bp B3 q7 0 1 a1 fun B8 =>
      some (v6, σ2, B8, N4)) else (
      some ((-2), σ, B, nb)))
def g_X4_set (σ : Blk) (B : Nat → Blk) (nb : Nat) (a1 : Int) (a2 : Int) : Option (Int × Up) :=
  if a1 ≠ 0 then (
    if a1 ≠ 1 then (
      some ((-2), σ, B, nb)) else (
      bd4 (g_X4_setPiece σ B nb a2) fun r4 σ1 B2 N3 =>
      some (r4, σ1, B2, N3))) else (
    bd4 (g_X4_setHead σ B nb a2) fun r8 σ5 B6 N7 =>
    some (r8, σ5, B6, N7))
def g_X4_takeTrial (σ : Blk) (B : Nat → Blk) (nb : Nat)  : Option (Up) :=
  gk (σ 0 3) nb fun q1 =>
  gk (σ 0 4) nb fun q2 =>
  pf σ 0 3 (q2 : Int) fun σ3 =>
  pf σ3 0 4 (q1 : Int) fun σ4 =>
  some (σ4, B, nb)
def g_X4_writePadRow_L62 (q4 : Nat) (q9 : Nat) (r10 : Int) (j11 : Blk → (Nat → Blk) → Nat → Option (Int × Up)) : Nat → Int → Blk → (Nat → Blk) → Nat → Option (Int × Up)
  | 0, _, _, _, _ => none
  | n + 1, x18, σ19, B20, N21 =>
    lk q4 N21 <|
    if B20 q4 (8 + 3 * q9) 1 ≤ x18 then (
      j11 σ19 B20 N21) else (
      Option.bind (ck (r10 + x18)) fun v22 =>
      Option.bind (g_X4_at σ19 2 80 v22) fun r23 =>
      Option.bind (ck (r23 - 97)) fun v24 =>
      cbU (g_X4_store (B20 q4) (10 + 3 * q9) 40 x18 v24) B20 q4 fun B25 =>
      Option.bind (ck (x18 + 1)) fun v26 =>
      g_X4_writePadRow_L62 q4 q9 r10 j11 n v26 σ19 B25 N21)
def g_X4_writePadRow (σ : Blk) (B : Nat → Blk) (nb : Nat) (a1 : Int) : Option (Int × Up) :=
  gk (σ 0 4) nb fun q1 =>
  gk (σ 0 3) nb fun q2 =>
  ne q1 q2 (
    cbU (g_X0_copyFrom (B q1) (B q2)) B q1 fun B3 =>
    gk (σ 0 4) nb fun q4 =>
    Option.bind (g_X4_at σ 3 27 a1) fun r5 =>
    Option.bind (g_X4_at σ 5 27 a1) fun r6 =>
    cbW (g_X0_layRow (B3 q4) r5 r6) B3 q4 fun r8 B7 =>
    if r8 < 0 then (
      some (0, σ, B7, nb)) else (
      gk r8 30 fun q9 =>
      Option.bind (g_X4_at σ 4 27 a1) fun r10 =>
      jp (fun (σ12 : Blk) (B13 : Nat → Blk) (N14 : Nat) => 
        bd3 (g_X4_takeTrial σ12 B13 N14) fun σ15 B16 N17 =>
        some (1, σ15, B16, N17)) fun j11 =>
      g_X4_writePadRow_L62 q4 q9 r10 j11 fu 0 σ B7 nb))
def g_X4_write_L27 (j7 : Int → Blk → (Nat → Blk) → Nat → Option (Int × Up)) : Nat → Int → Blk → (Nat → Blk) → Nat → Option (Int × Up)
  | 0, _, _, _, _ => none
  | n + 1, x13, σ14, B15, N16 =>
    if σ14 1 2 ≤ x13 then (
      j7 x13 σ14 B15 N16) else (
      bd4 (g_X4_writePadRow σ14 B15 N16 x13) fun r20 σ17 B18 N19 =>
      if r20 = 0 then (
        j7 x13 σ17 B18 N19) else (
        Option.bind (ck (x13 + 1)) fun v21 =>
        g_X4_write_L27 j7 n v21 σ17 B18 N19))
def g_X4_write (σ : Blk) (B : Nat → Blk) (nb : Nat)  : Option (Int × Up) :=
  cpW (g_X2_read (opad σ)) σ fun r1 σ2 =>
  if r1 = (-1) then (
    gk (σ2 0 3) nb fun q3 =>
    bd3 (g_X1_record σ2 B nb q3) fun σ4 B5 N6 =>
    jp (fun (x8 : Int) (σ9 : Blk) (B10 : Nat → Blk) (N11 : Nat) => 
      pf σ9 1 1 0 fun σ12 =>
      some (x8, σ12, B10, N11)) fun j7 =>
    g_X4_write_L27 j7 fu 0 σ4 B5 N6) else (
    some ((-3), σ2, B, nb))
def g_X4_append (σ : Blk) (B : Nat → Blk) (nb : Nat) (a1 : Int) (a2 : Int) : Option (Int × Up) :=
  gk (σ 0 3) nb fun q1 =>
  Option.bind (g_X0_rowOf (B q1) a1) fun r2 =>
  if r2 < 0 then (
    some ((-1), σ, B, nb)) else (
    gk r2 30 fun q3 =>
    if a2 < 0 then (
      some ((-2), σ, B, nb)) else (
      if a2 < 26 then (
        nm (B q1 (8 + 3 * q3) 1) fun v4 =>
        if v4 < 40 then (
          gk (σ 0 4) nb fun q5 =>
          gk (σ 0 3) nb fun q6 =>
          ne q5 q6 (
            cbU (g_X0_copyFrom (B q5) (B q6)) B q5 fun B7 =>
            gk (σ 0 4) nb fun q8 =>
            Option.bind (ck (v4 + 1)) fun v9 =>
            cbW (g_X0_layRow (B7 q8) a1 v9) B7 q8 fun r11 B10 =>
            if r11 < 0 then (
              some ((-5), σ, B10, nb)) else (
              gk r11 30 fun q12 =>
              cbU (g_X4_store (B10 q8) (10 + 3 * q12) 40 v4 a2) B10 q8 fun B13 =>
              gk (σ 0 3) nb fun q14 =>
              bd3 (g_X1_record σ B13 nb q14) fun σ15 B16 N17 =>
              bd3 (g_X4_takeTrial σ15 B16 N17) fun σ18 B19 N20 =>
              Option.bind (ck (v4 + 1)) fun v21 =>
              some (v21, σ18, B19, N20)))) else (
          some ((-4), σ, B, nb))) else (
        some ((-2), σ, B, nb))))
def g_X4_delete (σ : Blk) (B : Nat → Blk) (nb : Nat) (a1 : Int) : Option (Int × Up) :=
  gk (σ 0 3) nb fun q1 =>
  Option.bind (g_X0_rowOf (B q1) a1) fun r2 =>
  if r2 < 0 then (
    some ((-1), σ, B, nb)) else (
    gk r2 30 fun q3 =>
    gk (σ 0 3) nb fun q4 =>
    bd3 (g_X1_record σ B nb q4) fun σ5 B6 N7 =>
    gk (σ5 0 3) N7 fun q8 =>
    eqn q1 q8 <|
    Option.bind (g_X0_cellsOf (B6 q1) q3) fun r9 =>
    gk (σ5 0 3) N7 fun q10 =>
    eqn q1 q10 <|
    cbU (g_X0_removeRow (B6 q1) q3) B6 q1 fun B11 =>
    some (r9, σ5, B11, N7))
def g_X4_tryPacking (σ : Blk) (B : Nat → Blk) (nb : Nat) (a1 : Int) : Option (Int × Up) :=
  gk (σ 0 4) nb fun q1 =>
  gk (σ 0 3) nb fun q2 =>
  ne q1 q2 (
    cbU (g_X0_copyFrom (B q1) (B q2)) B q1 fun B3 =>
    gk (σ 0 4) nb fun q4 =>
    bp B3 q4 0 0 a1 fun B5 =>
    gk (σ 0 4) nb fun q6 =>
    cbW (g_X0_packAll (B5 q6)) B5 q6 fun r8 B7 =>
    Option.bind (ckB r8) fun _ =>
    some (r8, σ, B7, nb))
def g_X4_pack (σ : Blk) (B : Nat → Blk) (nb : Nat)  : Option (Int × Up) :=
  gk (σ 0 3) nb fun q1 =>
  bd4 (g_X4_tryPacking σ B nb (B q1 0 0)) fun r5 σ2 B3 N4 =>
  if r5 ≠ 0 then (
    gk (σ2 0 3) N4 fun q6 =>
    bd3 (g_X1_record σ2 B3 N4 q6) fun σ7 B8 N9 =>
    bd3 (g_X4_takeTrial σ7 B8 N9) fun σ10 B11 N12 =>
    gk (σ10 0 3) N12 fun q13 =>
    Option.bind (g_X3_pagesInUse (B11 q13)) fun r14 =>
    some (r14, σ10, B11, N12)) else (
    some ((-5), σ2, B3, N4))
def g_X4_row (σ : Blk) (B : Nat → Blk) (nb : Nat) (a1 : Int) (a2 : Int) : Option (Int) :=
  gk (σ 0 3) nb fun q1 =>
  Option.bind (g_X0_rowOf (B q1) a1) fun r2 =>
  if r2 < 0 then (
    some ((-1))) else (
    gk r2 30 fun q3 =>
    if a2 = 0 then (
      some (B q1 (8 + 3 * q3) 1)) else
    if a2 = 1 then (
      Option.bind (dv (B q1 (8 + 3 * q3) 2) 40) fun v4 =>
      some v4) else
    if a2 = 2 then (
      Option.bind (rm_ (B q1 (8 + 3 * q3) 2) 40) fun v5 =>
      some v5) else
    if a2 = 3 then (
      Option.bind (dv (B q1 (8 + 3 * q3) 3) 40) fun v6 =>
      some v6) else
    if a2 = 4 then (
      Option.bind (rm_ (B q1 (8 + 3 * q3) 3) 40) fun v7 =>
      some v7) else
    if a2 = 5 then (
      Option.bind (g_X7_hasMoved (B q1) q3) fun r8 =>
      if r8 = 0 then (
        some 0) else (
        some 1)) else
    if a2 = 6 then (
      gk (σ 0 3) nb fun q9 =>
      Option.bind (g_X4_at (B q9) 4 400 (B q1 (8 + 3 * q3) 3)) fun r10 =>
      Option.bind (ck (r10 - 2)) fun v11 =>
      some v11) else
    if a2 = 7 then (
      some (B q1 (8 + 3 * q3) 4)) else
    if a2 = 8 then (
      Option.bind (g_X7_cost (B q1) q3) fun r12 =>
      some r12) else
    if a2 = 9 then (
      gk (σ 0 3) nb fun q13 =>
      eqn q1 q13 <|
      Option.bind (g_X0_cellsOf (B q1) q3) fun r14 =>
      some r14) else
    some ((-2)))
def g_X4_letter (σ : Blk) (B : Nat → Blk) (nb : Nat) (a1 : Int) (a2 : Int) : Option (Int) :=
  gk (σ 0 3) nb fun q1 =>
  Option.bind (g_X0_rowOf (B q1) a1) fun r2 =>
  if r2 < 0 then (
    some ((-1))) else (
    gk r2 30 fun q3 =>
    if a2 < 0 then (
      some ((-1))) else (
      if a2 < B q1 (8 + 3 * q3) 1 then (
        Option.bind (g_X4_at (B q1) (10 + 3 * q3) 40 a2) fun r4 =>
        some r4) else (
        some ((-1)))))
def g_X4_piece (σ : Blk) (B : Nat → Blk) (nb : Nat) (a1 : Int) (a2 : Int) (a3 : Int) : Option (Int) :=
  gk (σ 0 3) nb fun q1 =>
  Option.bind (g_X0_rowOf (B q1) a1) fun r2 =>
  if r2 < 0 then (
    some ((-1))) else (
    gk r2 30 fun q3 =>
    if a2 < 0 then (
      some ((-1))) else (
      if a2 < B q1 (8 + 3 * q3) 4 then (
        Option.bind (g_X4_at (B q1) (9 + 3 * q3) 40 a2) fun r4 =>
        if a3 = 0 then (
          Option.bind (dv r4 40) fun v5 =>
          some v5) else
        if a3 = 1 then (
          Option.bind (rm_ r4 40) fun v6 =>
          some v6) else
        if a3 = 2 then (
          gk (σ 0 3) nb fun q7 =>
          Option.bind (g_X4_at (B q7) 4 400 r4) fun r8 =>
          Option.bind (ck (r8 - 1)) fun v9 =>
          some v9) else
        some ((-2))) else (
        some ((-1)))))
def g_X4_page (σ : Blk) (B : Nat → Blk) (nb : Nat) (a1 : Int) (a2 : Int) : Option (Int) :=
  if a1 < 0 then (
    some ((-1))) else (
    if a1 < 10 then (
      if a2 = 0 then (
        gk (σ 0 3) nb fun q1 =>
        Option.bind (g_X4_at (B q1) 5 10 a1) fun r2 =>
        some r2) else
      if a2 = 1 then (
        gk (σ 0 3) nb fun q3 =>
        Option.bind (g_X3_slotsOf (B q3) a1) fun r4 =>
        some r4) else
      if a2 = 2 then (
        gk (σ 0 3) nb fun q5 =>
        Option.bind (g_X3_thingsOn (B q5) a1 1) fun r6 =>
        some r6) else
      if a2 = 3 then (
        gk (σ 0 3) nb fun q7 =>
        Option.bind (g_X3_thingsOn (B q7) a1 2) fun r8 =>
        some r8) else
      if a2 = 4 then (
        gk (σ 0 3) nb fun q9 =>
        Option.bind (g_X3_thingsOn (B q9) a1 3) fun r10 =>
        some r10) else
      if a2 = 5 then (
        gk (σ 0 3) nb fun q11 =>
        Option.bind (g_X3_thingsOn (B q11) a1 0) fun r12 =>
        some r12) else
      some ((-2))) else (
      some ((-1))))
def g_X4_slot (σ : Blk) (B : Nat → Blk) (nb : Nat) (a1 : Int) (a2 : Int) (a3 : Int) : Option (Int) :=
  if a1 < 0 then (
    some ((-1))) else (
    if 10 ≤ a1 then (
      some ((-1))) else (
      if a2 < 0 then (
        some ((-1))) else (
        gk (σ 0 3) nb fun q1 =>
        Option.bind (g_X3_slotsOf (B q1) a1) fun r2 =>
        if a2 < r2 then (
          Option.bind (ck ((a1 * 40) + a2)) fun v3 =>
          if a3 = 0 then (
            gk (σ 0 3) nb fun q4 =>
            Option.bind (g_X4_at (B q4) 2 400 v3) fun r5 =>
            some r5) else
          if a3 = 1 then (
            gk (σ 0 3) nb fun q6 =>
            Option.bind (g_X4_at (B q6) 2 400 v3) fun r7 =>
            if r7 ≠ 0 then (
              gk (σ 0 3) nb fun q8 =>
              Option.bind (g_X4_at (B q8) 3 400 v3) fun r9 =>
              some r9) else (
              some ((-6)))) else
          if a3 = 2 then (
            gk (σ 0 3) nb fun q10 =>
            Option.bind (g_X4_at (B q10) 4 400 v3) fun r11 =>
            some r11) else
          some ((-2))) else (
          some ((-1))))))
def g_X4_count (σ : Blk) (B : Nat → Blk) (nb : Nat) (a1 : Int) : Option (Int) :=
  if a1 = 0 then (
    gk (σ 0 3) nb fun q1 =>
    some (B q1 0 2)) else
  if a1 = 1 then (
    gk (σ 0 3) nb fun q2 =>
    Option.bind (g_X3_pagesInUse (B q2)) fun r3 =>
    some r3) else
  if a1 = 2 then (
    gk (σ 0 3) nb fun q4 =>
    Option.bind (g_X3_thingsInAll (B q4) 3) fun r5 =>
    some r5) else
  if a1 = 3 then (
    gk (σ 0 3) nb fun q6 =>
    Option.bind (g_X3_thingsInAll (B q6) 2) fun r7 =>
    some r7) else
  if a1 = 4 then (
    gk (σ 0 3) nb fun q8 =>
    Option.bind (g_X3_freeInAll (B q8)) fun r9 =>
    some r9) else
  if a1 = 5 then (
    gk (σ 0 3) nb fun q10 =>
    Option.bind (g_X0_costInAll (B q10)) fun r11 =>
    some r11) else
  if a1 = 6 then (
    gk (σ 0 3) nb fun q12 =>
    Option.bind (g_X0_lettersInAll (B q12)) fun r13 =>
    some r13) else
  if a1 = 7 then (
    gk (σ 0 3) nb fun q14 =>
    if B q14 0 2 ≠ 0 then (
      gk (σ 0 3) nb fun q15 =>
      Option.bind (g_X0_greatestCost (B q15)) fun r16 =>
      some r16) else (
      some ((-6)))) else
  if a1 = 8 then (
    gk (σ 0 3) nb fun q17 =>
    some (B q17 0 0)) else
  if a1 = 9 then (
    gk (σ 0 3) nb fun q18 =>
    some (B q18 0 1)) else
  if a1 = 10 then (
    some (σ 1 1)) else
  if a1 = 11 then (
    some (σ 6 1)) else
  some ((-2))
def g_X4_key_L4 (σ : Blk) (B : Nat → Blk) (nb : Nat) (a1 : Int) : Nat → Int → Int → Option (Int)
  | 0, _, _ => none
  | n + 1, x1, x2 =>
    if 100 ≤ x2 then (
      some ((-1))) else (
      gk (σ 0 3) nb fun q3 =>
      Option.bind (g_X0_rowOf (B q3) x2) fun r4 =>
      jp (fun (x6 : Int) => 
        Option.bind (ck (x2 + 1)) fun v7 =>
        g_X4_key_L4 σ B nb a1 n x6 v7) fun j5 =>
      if r4 < 0 then (
        j5 x1) else (
        gk r4 30 fun q8 =>
        if x1 ≠ a1 then (
          Option.bind (ck (x1 + 1)) fun v9 =>
          j5 v9) else (
          some x2)))
def g_X4_key (σ : Blk) (B : Nat → Blk) (nb : Nat) (a1 : Int) : Option (Int) :=
  g_X4_key_L4 σ B nb a1 fu 0 0
def g_X4_ifPacked (σ : Blk) (B : Nat → Blk) (nb : Nat) (a1 : Int) (a2 : Int) : Option (Int × Up) :=
  if a1 < 0 then (
    some ((-2), σ, B, nb)) else (
    if 16 < a1 then (
      some ((-2), σ, B, nb)) else (
      if a2 < 0 then (
        some ((-2), σ, B, nb)) else (
        if a2 ≤ 2 then (
          bd4 (g_X4_tryPacking σ B nb a1) fun r4 σ1 B2 N3 =>
          if r4 ≠ 0 then (
            if a2 ≠ 0 then (
              if a2 ≠ 1 then (
                gk (σ1 0 4) N3 fun q5 =>
                Option.bind (g_X3_thingsInAll (B2 q5) 2) fun r6 =>
                some (r6, σ1, B2, N3)) else (
                gk (σ1 0 4) N3 fun q7 =>
                Option.bind (g_X3_pagesInUse (B2 q7)) fun r8 =>
                some (r8, σ1, B2, N3))) else (
              gk (σ1 0 4) N3 fun q9 =>
              Option.bind (g_X0_costInAll (B2 q9)) fun r10 =>
              some (r10, σ1, B2, N3))) else (
            some ((-5), σ1, B2, N3))) else (
          some ((-2), σ, B, nb)))))
def g_X4_bestHead_L20  : Nat → Int → Int → Int → Blk → (Nat → Blk) → Nat → Option (Int × Up)
  | 0, _, _, _, _, _, _ => none
  | n + 1, x2, x3, x4, σ5, B6, N7 =>
    if 16 < x4 then (
      some (x2, σ5, B6, N7)) else (
      bd4 (g_X4_tryPacking σ5 B6 N7 x4) fun r11 σ8 B9 N10 =>
      jp (fun (x13 : Int) (x14 : Int) => 
        Option.bind (ck (x4 + 2)) fun v15 =>
        g_X4_bestHead_L20 n x13 x14 v15 σ8 B9 N10) fun j12 =>
      if r11 = 0 then (
        j12 x2 x3) else (
        gk (σ8 0 4) N10 fun q16 =>
        Option.bind (g_X0_costInAll (B9 q16)) fun r17 =>
        jp (
          j12 x4 r17) fun j18 =>
        if x2 = (-6) then (
          j18) else (
          if x3 ≤ r17 then (
            j12 x2 x3) else (
            j18))))
def g_X4_bestHead (σ : Blk) (B : Nat → Blk) (nb : Nat)  : Option (Int × Up) :=
  gk (σ 0 3) nb fun q1 =>
  if B q1 0 2 ≠ 0 then (
    g_X4_bestHead_L20 fu ((-6)) 0 0 σ B nb) else (
    some ((-6), σ, B, nb))
def g_X4_most_L16 (a1 : Int) : Nat → Int → Blk → (Nat → Blk) → Nat → Option (Int × Up)
  | 0, _, _, _, _ => none
  | n + 1, x1, σ2, B3, N4 =>
    if x1 < 0 then (
      some ((-6), σ2, B3, N4)) else (
      gk (σ2 0 4) N4 fun q5 =>
      gk (σ2 0 3) N4 fun q6 =>
      ne q5 q6 (
        cbU (g_X0_copyFrom (B3 q5) (B3 q6)) B3 q5 fun B7 =>
        gk (σ2 0 4) N4 fun q8 =>
        cbW (g_X0_layRow (B7 q8) a1 x1) B7 q8 fun r10 B9 =>
        if r10 < 0 then (
          Option.bind (ck (x1 + (-1))) fun v11 =>
          g_X4_most_L16 a1 n v11 σ2 B9 N4) else (
          gk r10 30 fun q12 =>
          some (x1, σ2, B9, N4))))
def g_X4_most (σ : Blk) (B : Nat → Blk) (nb : Nat) (a1 : Int) : Option (Int × Up) :=
  if a1 < 0 then (
    some ((-2), σ, B, nb)) else (
    if a1 < 100 then (
      g_X4_most_L16 a1 fu 40 σ B nb) else (
      some ((-2), σ, B, nb)))
def g_X4_signOf (a1 : Int64) (a2 : Int) : Option (Int) :=
  some (iand (l2i (lushr a1 (8 * a2))) 255)
def g_X4_signsIn_L2 (a1 : Int64) (j1 : Int → Option (Int)) : Nat → Int → Option (Int)
  | 0, _ => none
  | n + 1, x5 =>
    if 8 ≤ x5 then (
      j1 x5) else (
      Option.bind (g_X4_signOf a1 x5) fun r6 =>
      if r6 = 0 then (
        j1 x5) else (
        Option.bind (g_X4_signOf a1 x5) fun r7 =>
        if r7 < 33 then (
          some 0) else (
          if r7 ≤ 126 then (
            Option.bind (ck (x5 + 1)) fun v8 =>
            g_X4_signsIn_L2 a1 j1 n v8) else (
            some 0))))
def g_X4_signsIn (a1 : Int64) : Option (Int) :=
  jp (fun (x2 : Int) => 
    jp (fun (x4 : Int) => 
      if x4 = 0 then (
        some x2) else (
        some 0)) fun j3 =>
    if 8 ≤ x2 then (
      j3 0) else (
      if lcmp (lushr a1 (8 * x2)) ((0 : Int64)) = 0 then (
        j3 0) else (
        j3 1))) fun j1 =>
  g_X4_signsIn_L2 a1 j1 fu 0
def g_X4_put_L34 (a1 : Int64) (j4 : Blk → (Nat → Blk) → Nat → Option (Int × Up)) : Nat → Int → Blk → (Nat → Blk) → Nat → Option (Int × Up)
  | 0, _, _, _, _ => none
  | n + 1, x8, σ9, B10, N11 =>
    if x8 < 0 then (
      j4 σ9 B10 N11) else (
      Option.bind (g_X4_signOf a1 x8) fun r12 =>
      Option.bind (g_X4_store σ9 2 80 (σ9 1 1) r12) fun σ13 =>
      Option.bind (ck ((σ13 1 1) + 1)) fun v14 =>
      pf σ13 1 1 v14 fun σ15 =>
      Option.bind (ck (x8 + (-1))) fun v16 =>
      g_X4_put_L34 a1 j4 n v16 σ15 B10 N11)
def g_X4_put (σ : Blk) (B : Nat → Blk) (nb : Nat) (a1 : Int64) : Option (Int × Up) :=
  Option.bind (g_X4_signsIn a1) fun r1 =>
  if r1 ≠ 0 then (
    Option.bind (ck ((σ 1 1) + r1)) fun v2 =>
    if v2 ≤ 80 then (
      Option.bind (ck (r1 - 1)) fun v3 =>
      jp (fun (σ5 : Blk) (B6 : Nat → Blk) (N7 : Nat) => 
        some (σ5 1 1, σ5, B6, N7)) fun j4 =>
      g_X4_put_L34 a1 j4 fu v3 σ B nb) else (
      some ((-4), σ, B, nb))) else (
    some ((-2), σ, B, nb))
def g_X4_wipe (σ : Blk) (B : Nat → Blk) (nb : Nat)  : Option (Int × Up) :=
  nm (σ 1 1) fun v1 =>
  pf σ 1 1 0 fun σ2 =>
  some (v1, σ2, B, nb)
