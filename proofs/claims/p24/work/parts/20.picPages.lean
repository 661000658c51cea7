def g_X3_copyFrom (σ : Blk) (τ : Blk) : Option (Blk) :=
  pk (cpB σ 2 τ 2 400) fun σ1 =>
  pk (cpB σ1 3 τ 3 400) fun σ2 =>
  pk (cpB σ2 4 τ 4 400) fun σ3 =>
  pk (cpB σ3 5 τ 5 10) fun σ4 =>
  some σ4
def g_X3_vacate (σ : Blk) (a1 : Int) : Option (Blk) :=
  if a1 < 0 then (
    some σ) else (
    if 400 ≤ a1 then (
      some σ) else (
      Option.bind (dv a1 40) fun v1 =>
      Option.bind (ld σ 5 10 v1) fun v2 =>
      Option.bind (ld σ 4 400 a1) fun v3 =>
      Option.bind (ck (v2 + v3)) fun v4 =>
      Option.bind (sw σ 5 10 v1 v4) fun σ5 =>
      Option.bind (sw σ5 2 400 a1 0) fun σ6 =>
      Option.bind (sw σ6 4 400 a1 0) fun σ7 =>
      some σ7))
def g_X3_hasRoom (σ : Blk) (a1 : Int) (a2 : Int) : Option (Int) :=
  if a1 < 0 then (
    some 0) else (
    if 10 ≤ a1 then (
      some 0) else (
      Option.bind (ld σ 5 10 a1) fun v1 =>
      if v1 < a2 then (
        some 0) else (
        some 1)))
def g_X3_occupy (σ : Blk) (a1 : Int) (a2 : Int) (a3 : Int) (a4 : Int) : Option (Blk) :=
  if a1 < 0 then (
    some σ) else (
    if 400 ≤ a1 then (
      some σ) else (
      Option.bind (sw σ 2 400 a1 a2) fun σ1 =>
      Option.bind (sw σ1 3 400 a1 a3) fun σ2 =>
      Option.bind (sw σ2 4 400 a1 a4) fun σ3 =>
      Option.bind (dv a1 40) fun v4 =>
      Option.bind (ld σ3 5 10 v4) fun v5 =>
      Option.bind (ck (v5 - a4)) fun v6 =>
      Option.bind (sw σ3 5 10 v4 v6) fun σ7 =>
      some σ7))
def g_X3_lowestGap_L2 (σ : Blk) (a1 : Int) : Nat → Int → Option (Int)
  | 0, _ => none
  | n + 1, x1 =>
    if 40 ≤ x1 then (
      some ((-1))) else (
      Option.bind (ck ((a1 * 40) + x1)) fun v2 =>
      Option.bind (g_X4_at σ 2 400 v2) fun r3 =>
      if r3 ≠ 0 then (
        Option.bind (ck (x1 + 1)) fun v4 =>
        g_X3_lowestGap_L2 σ a1 n v4) else (
        some v2))
def g_X3_lowestGap (σ : Blk) (a1 : Int) : Option (Int) :=
  g_X3_lowestGap_L2 σ a1 fu 0
def g_X3_place_L3 (σ : Blk) (a1 : Int) (a2 : Int) (a3 : Int) : Nat → Int → Option (Int × Blk)
  | 0, _ => none
  | n + 1, x1 =>
    if 10 ≤ x1 then (
      some ((-1), σ)) else (
      Option.bind (g_X3_hasRoom σ x1 a3) fun r2 =>
      if r2 = 0 then (
        Option.bind (ck (x1 + 1)) fun v3 =>
        g_X3_place_L3 σ a1 a2 a3 n v3) else (
        Option.bind (g_X3_lowestGap σ x1) fun r4 =>
        Option.bind (g_X3_occupy σ r4 a1 a2 a3) fun σ5 =>
        some (r4, σ5)))
def g_X3_place (σ : Blk) (a1 : Int) (a2 : Int) (a3 : Int) : Option (Int × Blk) :=
  g_X3_place_L3 σ a1 a2 a3 fu 0
def g_X3_clear (σ : Blk)  : Option (Blk) :=
  Option.bind (f_J7_fill_53178 σ 2 400 0) fun σ1 =>
  Option.bind (f_J7_fill_53178 σ1 4 400 0) fun σ2 =>
  Option.bind (f_J7_fill_53178 σ2 5 10 40) fun σ3 =>
  some σ3
def g_X3_slotsOf_L3 (σ : Blk) (a1 : Int) : Nat → Int → Option (Int)
  | 0, _ => none
  | n + 1, x1 =>
    if x1 < 0 then (
      some 0) else (
      Option.bind (ck ((a1 * 40) + x1)) fun v2 =>
      Option.bind (g_X4_at σ 2 400 v2) fun r3 =>
      if r3 = 0 then (
        Option.bind (ck (x1 + (-1))) fun v4 =>
        g_X3_slotsOf_L3 σ a1 n v4) else (
        Option.bind (ck (x1 + 1)) fun v5 =>
        some v5))
def g_X3_slotsOf (σ : Blk) (a1 : Int) : Option (Int) :=
  g_X3_slotsOf_L3 σ a1 fu 39
def g_X3_thingsOn_L12 (σ : Blk) (a1 : Int) (a2 : Int) (r1 : Int) : Nat → Int → Int → Option (Int)
  | 0, _, _ => none
  | n + 1, x2, x3 =>
    if r1 ≤ x3 then (
      some x2) else (
      Option.bind (ck ((a1 * 40) + x3)) fun v4 =>
      Option.bind (g_X4_at σ 2 400 v4) fun r5 =>
      jp (fun (x7 : Int) => 
        Option.bind (ck (x3 + 1)) fun v8 =>
        g_X3_thingsOn_L12 σ a1 a2 r1 n x7 v8) fun j6 =>
      if r5 ≠ a2 then (
        j6 x2) else (
        Option.bind (ck (x2 + 1)) fun v9 =>
        j6 v9))
def g_X3_thingsOn (σ : Blk) (a1 : Int) (a2 : Int) : Option (Int) :=
  Option.bind (g_X3_slotsOf σ a1) fun r1 =>
  g_X3_thingsOn_L12 σ a1 a2 r1 fu 0 0
def g_X3_thingsInAll_L4 (σ : Blk) (a1 : Int) : Nat → Int → Int → Option (Int)
  | 0, _, _ => none
  | n + 1, x1, x2 =>
    if 10 ≤ x2 then (
      some x1) else (
      Option.bind (g_X3_thingsOn σ x2 a1) fun r3 =>
      Option.bind (ck (x1 + r3)) fun v4 =>
      Option.bind (ck (x2 + 1)) fun v5 =>
      g_X3_thingsInAll_L4 σ a1 n v4 v5)
def g_X3_thingsInAll (σ : Blk) (a1 : Int) : Option (Int) :=
  g_X3_thingsInAll_L4 σ a1 fu 0 0
def g_X3_pagesInUse_L4 (σ : Blk) : Nat → Int → Int → Option (Int)
  | 0, _, _ => none
  | n + 1, x1, x2 =>
    if 10 ≤ x2 then (
      some x1) else (
      Option.bind (ld σ 5 10 x2) fun v3 =>
      jp (fun (x5 : Int) => 
        Option.bind (ck (x2 + 1)) fun v6 =>
        g_X3_pagesInUse_L4 σ n x5 v6) fun j4 =>
      if 40 ≤ v3 then (
        j4 x1) else (
        Option.bind (ck (x1 + 1)) fun v7 =>
        j4 v7))
def g_X3_pagesInUse (σ : Blk)  : Option (Int) :=
  g_X3_pagesInUse_L4 σ fu 0 0
def g_X3_freeInAll_L4 (σ : Blk) : Nat → Int → Int → Option (Int)
  | 0, _, _ => none
  | n + 1, x1, x2 =>
    if 10 ≤ x2 then (
      some x1) else (
      Option.bind (ld σ 5 10 x2) fun v3 =>
      Option.bind (ck (x1 + v3)) fun v4 =>
      Option.bind (ck (x2 + 1)) fun v5 =>
      g_X3_freeInAll_L4 σ n v4 v5)
def g_X3_freeInAll (σ : Blk)  : Option (Int) :=
  g_X3_freeInAll_L4 σ fu 0 0
def g_X7_copyFrom (σ : Blk) (q0 : Nat) (τ : Blk) (k1 : Nat) : Option (Blk) :=
  pf σ (8 + 3 * q0) 0 (τ (8 + 3 * k1) 0) fun σ1 =>
  pf σ1 (8 + 3 * q0) 1 (τ (8 + 3 * k1) 1) fun σ2 =>
  pf σ2 (8 + 3 * q0) 2 (τ (8 + 3 * k1) 2) fun σ3 =>
  pf σ3 (8 + 3 * q0) 3 (τ (8 + 3 * k1) 3) fun σ4 =>
  pf σ4 (8 + 3 * q0) 4 (τ (8 + 3 * k1) 4) fun σ5 =>
  pk (cpB σ5 (9 + 3 * q0) τ (9 + 3 * k1) 40) fun σ6 =>
  pk (cpB σ6 (10 + 3 * q0) τ (10 + 3 * k1) 40) fun σ7 =>
  some σ7
def g_X7_hasMoved (σ : Blk) (q0 : Nat) : Option (Int) :=
  if σ (8 + 3 * q0) 3 = σ (8 + 3 * q0) 2 then (
    some 0) else (
    some 1)
def g_X7_cost_L27 (σ : Blk) (q0 : Nat) : Nat → Int → Int → Int → Option (Int)
  | 0, _, _, _ => none
  | n + 1, x5, x6, x7 =>
    if σ (8 + 3 * q0) 4 ≤ x7 then (
      some x6) else (
      Option.bind (g_X4_at σ (9 + 3 * q0) 40 x7) fun r8 =>
      Option.bind (dv r8 40) fun v9 =>
      jp (fun (x11 : Int) => 
        Option.bind (ck (x7 + 1)) fun v12 =>
        g_X7_cost_L27 σ q0 n v9 x11 v12) fun j10 =>
      if v9 = x5 then (
        j10 x6) else (
        Option.bind (ck (x6 + 1)) fun v13 =>
        j10 v13))
def g_X7_cost (σ : Blk) (q0 : Nat) : Option (Int) :=
  Option.bind (dv (σ (8 + 3 * q0) 3) 40) fun v1 =>
  Option.bind (dv (σ (8 + 3 * q0) 2) 40) fun v2 =>
  jp (fun (x4 : Int) => 
    g_X7_cost_L27 σ q0 fu v1 x4 0) fun j3 =>
  if v1 ≠ v2 then (
    j3 2) else (
    j3 1)
