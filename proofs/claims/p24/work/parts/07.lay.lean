/-! THE BLOCKS: what cell lies where -/
def ia (G : Gt) (n : Nat) (d : Nat → Int) : va_E := .inl (G.2.1, (n, .inl (fun j => Int32.ofInt (d j))))
def iq (G : Gt) (n w : Nat) : va_E := .inl (G.2.2.1, (n, .inr (.inr (.inr (.inr (fun j => if j < n then some (w + 3 * j) else none))))))
def fsBook (b : Nat) (d : Nat → Int) : List Value := [vI (d 0), vI (d 1), vI (d 2), .ref (b + 1), .ref (b + 6), .ref (b + 7)]
def fsRow (b q : Nat) (d : Nat → Int) : List Value := [vI (d 0), vI (d 1), vI (d 2), vI (d 3), vI (d 4), .ref (b + (9 + 3 * q)), .ref (b + (10 + 3 * q))]
def fsPages (b : Nat) (_ : Nat → Int) : List Value := [.ref (b + 2), .ref (b + 3), .ref (b + 4), .ref (b + 5)]
def fsPad (b : Nat) (d : Nat → Int) : List Value := [.ref (b + 1), vI (d 1), vI (d 2), .ref (b + 2), .ref (b + 3), .ref (b + 4), vI (d 6), vI (d 7), vI (d 8)]
def layBook (G : Gt) (b : Nat) : Lay := fun i d => if i < 8 then (match i with
    | 0 => .inr (0, fsBook b d)
    | 1 => .inr (3, fsPages b d)
    | 2 => ia G 400 d
    | 3 => ia G 400 d
    | 4 => ia G 400 d
    | 5 => ia G 10 d
    | 6 => .inl (G.2.2.1, (30, .inr (.inr (.inr (.inr (fun j => if j < 30 then some (b + (8 + 3 * j)) else none))))))
    | _ => ia G 100 d) else if i % 3 = 2 then .inr (4, fsRow b ((i - 8) / 3) d) else ia G 40 d
def layPad (G : Gt) (b : Nat) : Lay := fun i d => match i with
    | 0 => .inr (2, fsPad b d)
    | 1 => ia G 80 d
    | _ => ia G 27 d
/-- a long, of its two halves -/
def mkL (lo hi : Int) : Int64 := Int64.ofInt (hi * 4294967296 + lo + 2147483648)
def loL (v : Int64) : Int := v.toInt % 4294967296 - 2147483648
def hiL (v : Int64) : Int := v.toInt / 4294967296
/-- an array of n longs, each by its two halves -/
def la (G : Gt) (n : Nat) (d : Nat → Int) : va_E := .inl (G.1.1 7, (n, .inr (.inl (fun j => mkL (d (2 * j)) (d (2 * j + 1))))))
/-- the law's tables: settings, rows, things; the same once more; letters -/
def layTab (G : Gt) (_ : Nat) : Lay := fun i d => match i with
    | 0 => ia G 4 d
    | 1 => ia G 28 d
    | 2 => ia G 64 d
    | 3 => ia G 4 d
    | 4 => ia G 28 d
    | 5 => ia G 64 d
    | _ => la G 12 d
theorem o_Book {G : Gt} {b : Nat} : isO (layBook G b) 0 0 (fsBook b) := fun _ => rfl
theorem o_Pages {G : Gt} {b : Nat} : isO (layBook G b) 1 3 (fsPages b) := fun _ => rfl
theorem o_Pad {G : Gt} {b : Nat} : isO (layPad G b) 0 2 (fsPad b) := fun _ => rfl
theorem a_Book_2 {G : Gt} {b : Nat} : isA G (layBook G b) 2 400 := ⟨by decide, fun _ => rfl⟩
theorem a_Book_3 {G : Gt} {b : Nat} : isA G (layBook G b) 3 400 := ⟨by decide, fun _ => rfl⟩
theorem a_Book_4 {G : Gt} {b : Nat} : isA G (layBook G b) 4 400 := ⟨by decide, fun _ => rfl⟩
theorem a_Book_5 {G : Gt} {b : Nat} : isA G (layBook G b) 5 10 := ⟨by decide, fun _ => rfl⟩
theorem a_Book_7 {G : Gt} {b : Nat} : isA G (layBook G b) 7 100 := ⟨by decide, fun _ => rfl⟩
theorem o_Row {G : Gt} {b q : Nat} : isO (layBook G b) (8 + 3 * q) 4 (fsRow b q) := fun d => by
  unfold layBook
  rw [if_neg (by omega), if_pos (by omega), show (8 + 3 * q - 8) / 3 = q by omega]
theorem a_Spots {G : Gt} {b q : Nat} : isA G (layBook G b) (9 + 3 * q) 40 := ⟨by decide, fun d => by
  unfold layBook
  rw [if_neg (by omega), if_neg (by omega)]
  rfl⟩
theorem a_Text {G : Gt} {b q : Nat} : isA G (layBook G b) (10 + 3 * q) 40 := ⟨by decide, fun d => by
  unfold layBook
  rw [if_neg (by omega), if_neg (by omega)]
  rfl⟩
theorem q_Book_6 {G : Gt} {b : Nat} : isQ G (layBook G b) b 6 30 8 := ⟨by decide, fun _ => rfl⟩
theorem a_Pad_1 {G : Gt} {b : Nat} : isA G (layPad G b) 1 80 := ⟨by decide, fun _ => rfl⟩
theorem a_Pad_2 {G : Gt} {b : Nat} : isA G (layPad G b) 2 27 := ⟨by decide, fun _ => rfl⟩
theorem a_Pad_3 {G : Gt} {b : Nat} : isA G (layPad G b) 3 27 := ⟨by decide, fun _ => rfl⟩
theorem a_Pad_4 {G : Gt} {b : Nat} : isA G (layPad G b) 4 27 := ⟨by decide, fun _ => rfl⟩
theorem a_Tab_0 {G : Gt} {b : Nat} : isA G (layTab G b) 0 4 := ⟨by decide, fun _ => rfl⟩
theorem a_Tab_1 {G : Gt} {b : Nat} : isA G (layTab G b) 1 28 := ⟨by decide, fun _ => rfl⟩
theorem a_Tab_2 {G : Gt} {b : Nat} : isA G (layTab G b) 2 64 := ⟨by decide, fun _ => rfl⟩
theorem a_Tab_3 {G : Gt} {b : Nat} : isA G (layTab G b) 3 4 := ⟨by decide, fun _ => rfl⟩
theorem a_Tab_4 {G : Gt} {b : Nat} : isA G (layTab G b) 4 28 := ⟨by decide, fun _ => rfl⟩
theorem a_Tab_5 {G : Gt} {b : Nat} : isA G (layTab G b) 5 64 := ⟨by decide, fun _ => rfl⟩
def fu : Nat := 10000
