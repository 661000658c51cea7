/-! PURE: put *)  -/
def sg (a : Int64) (x : Nat) : Int := ((un a / 2 ^ (8 * x) % 256 : Nat) : Int)
theorem x4_signOf {a : Int64} {x : Nat} (hx : x < 8) : f_X4_signOf a x = some (sg a x) := by
  unfold f_X4_signOf sg
  rw [iand_255, un_ushr hx]
theorem sg_rng (a : Int64) (x : Nat) : 0 ≤ sg a x ∧ sg a x ≤ 255 := by
  unfold sg
  omega
theorem un_step {y : Int64} {a : Int64} {x : Nat} (h : un y = un a / 2 ^ (8 * x)) : un (lushr y 8) = un a / 2 ^ (8 * (x + 1)) := by
  have h1 := un_ushr (x := y) (j := 1) (by omega)
  have h2 : lushr y 8 = lushr y (8 * ((1 : Nat) : Int)) := rfl
  rw [h2, h1, h, Nat.div_div_eq_div_mul, ← Nat.pow_add]
  congr 2
