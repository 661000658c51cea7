def f_J7_fill_53178_L5 (i1 : Nat) (n1 : Nat) (a2 : Int) (v1 : Int) : Nat → Int → Blk → Option (Blk)
  | 0, _, _ => none
  | n + 1, x2, σ3 =>
    if v1 ≤ x2 then (
      some σ3) else (
      Option.bind (sw σ3 i1 n1 x2 a2) fun σ4 =>
      Option.bind (ck (x2 + 1)) fun v5 =>
      f_J7_fill_53178_L5 i1 n1 a2 v1 n v5 σ4)
def f_J7_fill_53178 (σ : Blk) (i1 n1 : Nat) (a2 : Int) : Option (Blk) :=
  nm ((n1 : Int)) fun v1 =>
  f_J7_fill_53178_L5 i1 n1 a2 v1 fu 0 σ
