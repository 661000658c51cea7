def g_X2_awaitKey (σ : Blk)  : Option (Blk) :=
  pf σ 0 6 0 fun σ1 =>
  pf σ1 0 7 0 fun σ2 =>
  pf σ2 0 8 0 fun σ3 =>
  some σ3
def g_X2_readInText (σ : Blk) (a1 : Int) : Option (Int × Blk) :=
  if a1 ≠ 59 then (
    Option.bind (ck ((σ 0 2) - 1)) fun v1 =>
    Option.bind (g_X4_at σ 4 27 v1) fun r2 =>
    if a1 < 97 then (
      some (0, σ)) else (
      if 122 < a1 then (
        some (0, σ)) else (
        if r2 < 40 then (
          Option.bind (ck ((σ 0 2) - 1)) fun v3 =>
          Option.bind (ck (r2 + 1)) fun v4 =>
          Option.bind (g_X4_store σ 4 27 v3 v4) fun σ5 =>
          some (1, σ5)) else (
          some (0, σ))))) else (
    Option.bind (g_X2_awaitKey σ) fun σ6 =>
    some (1, σ6))
def g_X2_startText (σ : Blk) (a1 : Int) : Option (Int × Blk) :=
  if σ 0 2 < 27 then (
    Option.bind (g_X4_store σ 2 27 (σ 0 2) (σ 0 8)) fun σ1 =>
    Option.bind (g_X4_store σ1 3 27 (σ1 0 2) a1) fun σ2 =>
    Option.bind (g_X4_store σ2 4 27 (σ2 0 2) 0) fun σ3 =>
    Option.bind (ck ((σ3 0 2) + 1)) fun v4 =>
    pf σ3 0 2 v4 fun σ5 =>
    pf σ5 0 6 1 fun σ6 =>
    some (1, σ6)) else (
    some (0, σ))
def g_X2_readInKey (σ : Blk) (a1 : Int) (a2 : Int) : Option (Int × Blk) :=
  if a1 ≠ 61 then (
    jp (fun (x2 : Int) => 
      if a1 < 48 then (
        some (0, σ)) else (
        if 57 < a1 then (
          some (0, σ)) else (
          if x2 = 0 then (
            Option.bind (ck ((((σ 0 8) * 10) + a1) - 48)) fun v3 =>
            pf σ 0 8 v3 fun σ4 =>
            Option.bind (ck ((σ4 0 7) + 1)) fun v5 =>
            pf σ4 0 7 v5 fun σ6 =>
            if 100 ≤ σ6 0 8 then (
              some (0, σ6)) else (
              some (1, σ6))) else (
            some (0, σ))))) fun j1 =>
    if σ 0 7 ≤ 0 then (
      j1 0) else (
      if σ 0 8 ≠ 0 then (
        j1 0) else (
        j1 1))) else (
    if σ 0 7 ≤ 0 then (
      some (0, σ)) else (
      Option.bind (ck (a2 + 1)) fun v7 =>
      bd2 (g_X2_startText σ v7) fun r8 σ9 =>
      if r8 = 0 then (
        some (0, σ9)) else (
        some (1, σ9))))
def g_X2_read_L11 (j3 : Blk → Option (Int × Blk)) : Nat → Int → Blk → Option (Int × Blk)
  | 0, _, _ => none
  | n + 1, x5, σ6 =>
    if σ6 0 1 ≤ x5 then (
      j3 σ6) else (
      Option.bind (g_X4_at σ6 1 80 x5) fun r7 =>
      jp (fun (x9 : Int) (σ10 : Blk) => 
        if x9 ≠ 0 then (
          Option.bind (ck (x5 + 1)) fun v11 =>
          g_X2_read_L11 j3 n v11 σ10) else (
          some (x5, σ10))) fun j8 =>
      if σ6 0 6 = 0 then (
        bd2 (g_X2_readInKey σ6 r7 x5) fun r12 σ13 =>
        j8 r12 σ13) else (
        bd2 (g_X2_readInText σ6 r7) fun r14 σ15 =>
        j8 r14 σ15))
def g_X2_read (σ : Blk)  : Option (Int × Blk) :=
  pf σ 0 2 0 fun σ1 =>
  Option.bind (g_X2_awaitKey σ1) fun σ2 =>
  jp (fun (σ4 : Blk) => 
    if σ4 0 6 = 0 then (
      some (σ4 0 1, σ4)) else (
      some ((-1), σ4))) fun j3 =>
  g_X2_read_L11 j3 fu 0 σ2
