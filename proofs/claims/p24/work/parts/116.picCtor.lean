/-! constructors: what they lay *by program (ctor.py)* -/
def layPg (G : Gt) (b : Nat) : Lay := fun i d => match i with
    | 0 => .inr (3, [.ref (b + 1), .ref (b + 2), .ref (b + 3), .ref (b + 4)])
    | 1 => ia G 400 d
    | 2 => ia G 400 d
    | 3 => ia G 400 d
    | _ => ia G 10 d
theorem o_Pg {G : Gt} {b : Nat} : isO (layPg G b) 0 3 (fun _ => [.ref (b + 1), .ref (b + 2), .ref (b + 3), .ref (b + 4)]) := fun _ => rfl
theorem a_Pg_4 {G : Gt} {b : Nat} : isA G (layPg G b) 4 10 := ⟨by decide, fun _ => rfl⟩
def layHi (G : Gt) (b : Nat) : Lay := fun i d => match i with
    | 0 => .inr (1, [.ref (b + 1), vI (d 1), vI (d 2)])
    | _ => .inl (G.2.2.2, (6, .inr (.inr (.inr (.inr (fun _ => none))))))
def iniH : Blk := fun _ _ => 0
def layRw (G : Gt) (b : Nat) : Lay := fun i d => match i with
    | 0 => .inr (4, [vI (d 0), vI (d 1), vI (d 2), vI (d 3), vI (d 4), .ref (b + 1), .ref (b + 2)])
    | _ => ia G 40 d
def iniR : Blk := fun c j => if c = 0 then (if j = 0 then -1 else if j = 2 then -1 else if j = 3 then -1 else 0) else 0
def iniBk (σp : Blk) : Blk := fun c j => if c = 0 then (if j = 0 then 6 else if j = 1 then 8 else 0) else if c ≤ 5 then σp (c - 1) j else if c < 8 then 0 else if c % 3 = 2 then iniR 0 j else 0
theorem rg_0 : Rg (fun _ _ => 0) := fun _ _ => inR_c 0 rfl
theorem rg_iniH : Rg iniH := fun _ _ => inR_c 0 rfl
theorem rg_iniR : Rg iniR := by
  intro c j
  unfold iniR
  split
  · split
    · exact inR_c _ rfl
    · split
      · exact inR_c _ rfl
      · split
        · exact inR_c _ rfl
        · exact inR_c _ rfl
  · exact inR_c _ rfl
theorem rg_iniBk {σp : Blk} (h : Rg σp) : Rg (iniBk σp) := by
  intro c j
  unfold iniBk
  split
  · split
    · exact inR_c _ rfl
    · split
      · exact inR_c _ rfl
      · exact inR_c _ rfl
  · split
    · exact h _ _
    · split
      · exact inR_c _ rfl
      · split
        · exact rg_iniR _ _
        · exact inR_c _ rfl

def g_X3_init : Option Blk :=
  Option.bind (f_J7_fill_53178 (fun _ _ => 0) 4 10 40) fun σ1 =>
  some σ1
def g_X7_init : Option Blk :=
  some iniR
def g_X0_init : Option Blk :=
  Option.bind g_X3_init fun σ1 =>
  Option.bind (f_J7_fill_53178 (iniBk σ1) 7 100 ((-1))) fun σ2 =>
  some σ2
def g_X2_init : Option Blk :=
  some (fun _ _ => 0)
def g_X1_init : Option Blk :=
  some iniH
