def f_J7_fill_53178_L5 (i1 : Nat) (n1 : Nat) (a2 : Int) (v1 : Int) : Nat → Int → Blk → Option (Blk)
  | 0, _, _ => none
  | n + 1, x2, σ3 =>
    if v1 ≤ x2 then (
      some σ3) else (
      Option.bind (sw σ3 i1 n1 x2 a2) fun σ4 =>
      Option.bind (ck (x2 + 1)) fun v5 =>
      f_J7_fill_53178_L5 i1 n1 a2 v1 n v5 σ4)
def f_J7_fill_53178 (σ : Blk) (i1 n1 : Nat) (a2 : Int) : Option (Blk) :=
  nm ((n1 : Int)) fun v1 =>
  f_J7_fill_53178_L5 i1 n1 a2 v1 fu 0 σ
def g_X4_at (σ : Blk) (i1 n1 : Nat) (a2 : Int) : Option (Int) :=
  if a2 < 0 then (
    some ((-1))) else (
    if a2 < (n1 : Int) then (
      Option.bind (ld σ i1 n1 a2) fun v1 =>
      some v1) else (
      some ((-1))))
def g_X4_store (σ : Blk) (i1 n1 : Nat) (a2 : Int) (a3 : Int) : Option (Blk) :=
  if a2 < 0 then (
    some σ) else (
    if (n1 : Int) ≤ a2 then (
      some σ) else (
      Option.bind (sw σ i1 n1 a2 a3) fun σ1 =>
      some σ1))
