/-! PURE: eight signs in 64 bits *)  -/
def un (x : Int64) : Nat := x.toUInt64.toNat
theorem un_lt (x : Int64) : un x < 2 ^ 64 := x.toUInt64.toNat_lt
theorem un_ushr {x : Int64} {j : Nat} (hj : j < 8) : un (lushr x (8 * (j : Int))) = un x / 2 ^ (8 * j) := by
  unfold un lushr
  have h : ∀ y : UInt64, y.toInt64.toUInt64 = y := fun y => rfl
  rw [h, UInt64.toNat_shiftRight]
  have hs : (((Int32.ofInt (8 * (j : Int))).toInt64.toUInt64 &&& Int64.toUInt64 63).toNat % 64) = 8 * j := by
    rcases (show j = 0 ∨ j = 1 ∨ j = 2 ∨ j = 3 ∨ j = 4 ∨ j = 5 ∨ j = 6 ∨ j = 7 by omega) with rfl | rfl | rfl | rfl | rfl | rfl | rfl | rfl <;> decide
  rw [hs, Nat.shiftRight_eq_div_pow]
theorem and255 {x : Int64} : x &&& 255 = lN (un x % 256) := by
  apply Int64.toBitVec_inj.mp
  apply BitVec.eq_of_toNat_eq
  have h1 : (lN (un x % 256)).toBitVec.toNat = un x % 256 := by
    show (BitVec.ofNat 64 (un x % 256)).toNat = _
    rw [BitVec.toNat_ofNat]
    omega
  rw [h1, Int64.toBitVec_and, BitVec.toNat_and]
  have h2 : (255 : Int64).toBitVec.toNat = 2 ^ 8 - 1 := by decide
  rw [h2, Nat.and_two_pow_sub_one_eq_mod]
  rfl
theorem l2i_255 {x : Int64} : l2i (x &&& 255) = ((un x % 256 : Nat) : Int) := by
  unfold l2i
  rw [and255, lN_i, nI_toInt (by omega)]
theorem toI32_bv (x : Int64) : x.toInt32.toBitVec.toNat = un x % 2 ^ 32 := by
  show (x.toBitVec.signExtend 32).toNat = _
  rw [BitVec.signExtend_eq_setWidth_of_le _ (by omega), BitVec.toNat_setWidth]
  rfl
theorem iand_255 {x : Int64} : iand (l2i x) 255 = ((un x % 256 : Nat) : Int) := by
  unfold iand l2i
  have h1 : Int32.ofInt x.toInt32.toInt = x.toInt32 := Int32.ofInt_toInt _
  have h2 : Int32.ofInt 255 = 255 := rfl
  rw [h1, h2, pk_and x.toInt32 8 (by decide), toI32_bv, nI_toInt (by omega)]
  congr 1
  omega
theorem lcmp_0 {x : Int64} : lcmp x 0 = 0 ↔ un x = 0 := by
  have h : x = 0 ↔ un x = 0 := by
    constructor
    · rintro rfl; rfl
    · intro h
      apply Int64.toBitVec_inj.mp
      apply BitVec.eq_of_toNat_eq
      exact h
  rw [← h]
  unfold lcmp lg_cmp
  by_cases e : x = 0
  · subst e
    decide
  · constructor
    · intro z
      exfalso
      revert z
      split
      · decide
      · decide
    · intro z; exact absurd z e
