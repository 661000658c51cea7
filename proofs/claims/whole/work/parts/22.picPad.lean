def f_X2_awaitKey (σ : Blk)  : Option (Blk) :=
  pf σ 0 6 0 fun σ1 =>
  pf σ1 0 7 0 fun σ2 =>
  pf σ2 0 8 0 fun σ3 =>
  some σ3
def f_X2_readInText (σ : Blk) (a1 : Int) : Option (Int × Blk) :=
  if a1 ≠ 59 then (
    Option.bind (ck ((σ 0 2) - 1)) fun v1 =>
    if a1 < 97 then (
      some (0, σ)) else (
      if 122 < a1 then (
        some (0, σ)) else (
        if v1 < 0 then (
          some (0, σ)) else (
          Option.bind (ld σ 4 27 v1) fun v2 =>
          if v2 < 40 then (
            Option.bind (ld σ 4 27 v1) fun v3 =>
            Option.bind (ck (v3 + 1)) fun v4 =>
            Option.bind (sw σ 4 27 v1 v4) fun σ5 =>
            some (1, σ5)) else (
            some (0, σ)))))) else (
    Option.bind (f_X2_awaitKey σ) fun σ6 =>
    some (1, σ6))
def f_X2_startText (σ : Blk) (a1 : Int) : Option (Int × Blk) :=
  if σ 0 2 < 27 then (
    Option.bind (sw σ 2 27 (σ 0 2) (σ 0 8)) fun σ1 =>
    Option.bind (sw σ1 3 27 (σ1 0 2) a1) fun σ2 =>
    Option.bind (sw σ2 4 27 (σ2 0 2) 0) fun σ3 =>
    Option.bind (ck ((σ3 0 2) + 1)) fun v4 =>
    pf σ3 0 2 v4 fun σ5 =>
    pf σ5 0 6 1 fun σ6 =>
    some (1, σ6)) else (
    some (0, σ))
def f_X2_readInKey (σ : Blk) (a1 : Int) (a2 : Int) : Option (Int × Blk) :=
  if a2 ≠ 61 then (
    jp (fun (x2 : Int) => 
      if a2 < 48 then (
        some (0, σ)) else (
        if 57 < a2 then (
          some (0, σ)) else (
          if x2 = 0 then (
            Option.bind (ck ((((σ 0 8) * 10) + a2) - 48)) fun v3 =>
            pf σ 0 8 v3 fun σ4 =>
            Option.bind (ck ((σ4 0 7) + 1)) fun v5 =>
            pf σ4 0 7 v5 fun σ6 =>
            if 100 ≤ σ6 0 8 then (
              some (0, σ6)) else (
              some (1, σ6))) else (
            some (0, σ))))) fun j1 =>
    if σ 0 7 ≤ 0 then (
      j1 0) else (
      if σ 0 8 ≠ 0 then (
        j1 0) else (
        j1 1))) else (
    if σ 0 7 ≤ 0 then (
      some (0, σ)) else (
      Option.bind (ck (a1 + 1)) fun v7 =>
      bd2 (f_X2_startText σ v7) fun r8 σ9 =>
      if r8 = 0 then (
        some (0, σ9)) else (
        some (1, σ9))))
def f_X2_read_L11 (j3 : Blk → Option (Int × Blk)) : Nat → Int → Blk → Option (Int × Blk)
  | 0, _, _ => none
  | n + 1, x5, σ6 =>
    if σ6 0 1 ≤ x5 then (
      j3 σ6) else (
      jp (fun (x8 : Int) (σ9 : Blk) => 
        if x8 ≠ 0 then (
          Option.bind (ck (x5 + 1)) fun v10 =>
          f_X2_read_L11 j3 n v10 σ9) else (
          some (x5, σ9))) fun j7 =>
      if σ6 0 6 = 0 then (
        Option.bind (ld σ6 1 80 x5) fun v11 =>
        bd2 (f_X2_readInKey σ6 x5 v11) fun r12 σ13 =>
        j7 r12 σ13) else (
        Option.bind (ld σ6 1 80 x5) fun v14 =>
        bd2 (f_X2_readInText σ6 v14) fun r15 σ16 =>
        j7 r15 σ16))
def f_X2_read (σ : Blk)  : Option (Int × Blk) :=
  pf σ 0 2 0 fun σ1 =>
  Option.bind (f_X2_awaitKey σ1) fun σ2 =>
  jp (fun (σ4 : Blk) => 
    if σ4 0 6 = 0 then (
      some (σ4 0 1, σ4)) else (
      some ((-1), σ4))) fun j3 =>
  f_X2_read_L11 j3 fu 0 σ2
