def f_X3_clear (σ : Blk) : Option Blk := none
theorem m_X3_clear {l : Launch} {G : Gt} {b : Nat} {σ : Blk} {J : Blk → Heap → Prop} (hJ : Wd G (layBook G b) 74 b J) (hσ : Rg σ)  : MetS l yX3_clear cX3_clear 1 none { frames := 1, cells := 0, slots := 0, locals := 23 } G [.ref (b + 1)] (J σ) (poU J) (Ab b 74) 0 0 (f_X3_clear σ) := sorry
