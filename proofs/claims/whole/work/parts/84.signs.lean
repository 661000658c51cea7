/-! PURE: eight signs in 64 bits *)  -/
def un (x : Int64) : Nat := x.toUInt64.toNat
theorem un_lt (x : Int64) : un x < 2 ^ 64 := x.toUInt64.toNat_lt
theorem un_ushr {x : Int64} {j : Nat} (hj : j < 8) : un (lushr x (8 * (j : Int))) = un x / 2 ^ (8 * j) := by
  unfold un lushr
  have h : ∀ y : UInt64, y.toInt64.toUInt64 = y := fun y => rfl
  rw [h, UInt64.toNat_shiftRight]
  have hs : (((Int32.ofInt (8 * (j : Int))).toInt64.toUInt64 &&& Int64.toUInt64 63).toNat % 64) = 8 * j := by
    rcases (show j = 0 ∨ j = 1 ∨ j = 2 ∨ j = 3 ∨ j = 4 ∨ j = 5 ∨ j = 6 ∨ j = 7 by omega) with rfl | rfl | rfl | rfl | rfl | rfl | rfl | rfl <;> decide
  rw [hs, Nat.shiftRight_eq_div_pow]
