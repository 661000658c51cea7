/-! constructors: what they lay *by program (ctor.py)* -/
def layPg (G : Gt) (b : Nat) : Lay := fun i d => match i with
    | 0 => .inr (3, [.ref (b + 1), .ref (b + 2), .ref (b + 3), .ref (b + 4)])
    | 1 => ia G 400 d
    | 2 => ia G 400 d
    | 3 => ia G 400 d
    | _ => ia G 10 d
theorem o_Pg {G : Gt} {b : Nat} : isO (layPg G b) 0 3 (fun _ => [.ref (b + 1), .ref (b + 2), .ref (b + 3), .ref (b + 4)]) := fun _ => rfl
theorem a_Pg_4 {G : Gt} {b : Nat} : isA G (layPg G b) 4 10 := ⟨by decide, fun _ => rfl⟩
def layHi (G : Gt) (b : Nat) : Lay := fun i d => match i with
    | 0 => .inr (1, [.ref (b + 1), vI (d 1), vI (d 2)])
    | _ => .inl (G.2.2.2, (6, .inr (.inr (.inr (.inr (fun _ => none))))))
def iniH : Blk := fun _ _ => 0
def iniB (σp : Blk) : Blk := fun c j => if c = 0 then (if j = 0 then 6 else if j = 1 then 8 else 0) else if c ≤ 5 then σp (c - 1) j else 0
theorem rg_0 : Rg (fun _ _ => 0) := fun _ _ => inR_c 0 rfl
theorem rg_iniH : Rg iniH := fun _ _ => inR_c 0 rfl
theorem rg_iniB {σp : Blk} (h : Rg σp) : Rg (iniB σp) := by
  intro c j
  unfold iniB
  split
  · split
    · exact inR_c _ rfl
    · split
      · exact inR_c _ rfl
      · exact inR_c _ rfl
  · split
    · exact h _ _
    · exact inR_c _ rfl

def f_X3_init : Option Blk :=
  Option.bind (f_J7_fill_53178 (fun _ _ => 0) 4 10 40) fun σ1 =>
  some σ1
def f_X0_init : Option Blk :=
  Option.bind f_X3_init fun σ1 =>
  Option.bind (f_J7_fill_53178 (iniB σ1) 6 100 ((-1))) fun σ2 =>
  Option.bind (f_J7_fill_53178 σ2 7 30 ((-1))) fun σ3 =>
  some σ3
def f_X2_init : Option Blk :=
  some (fun _ _ => 0)
def f_X1_init : Option Blk :=
  some iniH
def f_X5_init : Option Blk :=
  Option.bind (sw (fun _ _ => 0) 1 763 0 6) fun σ1 =>
  Option.bind (sw σ1 1 763 1 8) fun σ2 =>
  some σ2
