/-! PURE: the law's letters, twelve to a long *)  -/
def LV (T : Blk) (j : Nat) : Int64 := mkL (T 6 (2 * j)) (T 6 (2 * j + 1))
theorem ldL_t {T : Blk} {i : Int} (q : Nat) (h : i = (q : Int)) (hq : q < 12) : ldL T 6 12 i = some (LV T q) := by
  subst h
  unfold ldL
  rw [if_pos ⟨by omega, by omega⟩, Int.toNat_natCast]
  rfl
/-- the tables with long q set -/
def upL (T : Blk) (q : Nat) (v : Int64) : Blk := up2 (up2 T 6 (2 * q) (loL v)) 6 (2 * q + 1) (hiL v)
theorem swL_t {T : Blk} {i : Int} {v : Int64} (q : Nat) (h : i = (q : Int)) (hq : q < 12) : swL T 6 12 i v = some (upL T q v) := by
  subst h
  unfold swL
  rw [if_pos ⟨by omega, by omega⟩, Int.toNat_natCast]
  rfl
theorem LV_s {T : Blk} {q : Nat} {v : Int64} : LV (upL T q v) q = v := by
  unfold LV upL
  rw [up2_n (by omega), up2_s, up2_s, mkL_of]
theorem LV_n {T : Blk} {q j : Nat} {v : Int64} (h : j ≠ q) : LV (upL T q v) j = LV T j := by
  unfold LV upL
  rw [up2_n (by omega), up2_n (by omega), up2_n (by omega), up2_n (by omega)]
theorem upL_ne {T : Blk} {q c : Nat} {v : Int64} (h : c ≠ 6) : upL T q v c = T c := by
  unfold upL
  rw [up2_ne h, up2_ne h]
theorem LV_congr {T T' : Blk} {j : Nat} (h : T' 6 = T 6) : LV T' j = LV T j := by
  unfold LV
  rw [h]
theorem un_pos {w : Int64} (h : 0 ≤ w.toInt) : ((un w : Nat) : Int) = w.toInt := by
  have e : w.toInt = w.toBitVec.toInt := rfl
  have e2 : un w = w.toBitVec.toNat := rfl
  rw [e] at h ⊢
  rw [BitVec.toInt_eq_toNat_cond] at h ⊢
  rw [e2]
  have := w.toBitVec.isLt
  split at h
  · rw [if_pos (by assumption)]
  · omega
theorem un_int {w : Int64} (h : un w < 2 ^ 63) : w.toInt = ((un w : Nat) : Int) := by
  have e : w.toInt = w.toBitVec.toInt := rfl
  have e2 : un w = w.toBitVec.toNat := rfl
  rw [e, BitVec.toInt_eq_toNat_cond]
  rw [e2] at h ⊢
  rw [if_pos (by omega)]
theorem sh64 {j : Nat} (hj : j < 12) : (((Int32.ofInt (5 * (j : Int))).toInt64 &&& 63).toBitVec.smod 64).toNat = 5 * j := by
  rcases (show j = 0 ∨ j = 1 ∨ j = 2 ∨ j = 3 ∨ j = 4 ∨ j = 5 ∨ j = 6 ∨ j = 7 ∨ j = 8 ∨ j = 9 ∨ j = 10 ∨ j = 11 by omega) with rfl | rfl | rfl | rfl | rfl | rfl | rfl | rfl | rfl | rfl | rfl | rfl <;> decide
theorem lshr_int {v : Int64} {j : Nat} (hj : j < 12) : (lshr v (5 * (j : Int))).toInt = v.toInt / ((2 ^ (5 * j) : Nat) : Int) := by
  unfold lshr
  show (v.toBitVec.sshiftRight (((Int32.ofInt (5 * (j : Int))).toInt64 &&& 63).toBitVec.smod 64).toNat).toInt = _
  rw [sh64 hj, BitVec.toInt_sshiftRight, Int.shiftRight_eq_div_pow]
  rfl
theorem iand_l31 {x : Int64} : iand (l2i x) 31 = ((un x % 32 : Nat) : Int) := by
  unfold iand l2i
  have h1 : Int32.ofInt x.toInt32.toInt = x.toInt32 := Int32.ofInt_toInt _
  have h2 : Int32.ofInt 31 = 31 := rfl
  rw [h1, h2, pk_and x.toInt32 5 (by decide), toI32_bv, nI_toInt (by omega)]
  congr 1
  omega
theorem dig64 {v : Int64} {j : Nat} (hj : j < 12) (h : 0 ≤ v.toInt) : iand (l2i (lshr v (5 * (j : Int)))) 31 = v.toInt / q5 j % 32 := by
  have h1 := lshr_int (v := v) hj
  have h2 : 0 ≤ (lshr v (5 * (j : Int))).toInt := by
    rw [h1]
    exact Int.ediv_nonneg h (Int.natCast_nonneg _)
  rw [iand_l31, Int.natCast_emod, un_pos h2, h1]
  rfl
theorem or64 {v : Int64} {j c : Nat} (hj : j < 12) (hc : c < 32) (h : 0 ≤ v.toInt ∧ v.toInt < q5 j) : (v ||| lshl (i2l (c : Int)) (5 * (j : Int))).toInt = v.toInt + c * q5 j := by
  have hp : 2 ^ (5 * j) ≤ 2 ^ 55 := Nat.pow_le_pow_right (by decide) (by omega)
  have hpos : 0 < 2 ^ (5 * j) := Nat.two_pow_pos _
  have hm : c * 2 ^ (5 * j) ≤ 31 * 2 ^ 55 := Nat.mul_le_mul (by omega) hp
  have hu := un_pos h.1
  unfold q5 at h ⊢
  have h2 : un v < 2 ^ (5 * j) := by omega
  have e1 : un (i2l (c : Int)) = c := by
    have : i2l (c : Int) = lN c := by
      unfold i2l
      rw [show Int32.ofInt (c : Int) = nI c from Int32.ofInt_eq_ofNat, nI_l (by omega)]
    rw [this]
    show (BitVec.ofNat 64 c).toNat = c
    rw [BitVec.toNat_ofNat]
    omega
  have e2 : un (lshl (i2l (c : Int)) (5 * (j : Int))) = c * 2 ^ (5 * j) := by
    unfold lshl
    show ((i2l (c : Int)).toBitVec <<< (((Int32.ofInt (5 * (j : Int))).toInt64 &&& 63).toBitVec.smod 64).toNat).toNat = _
    rw [sh64 hj, BitVec.toNat_shiftLeft, Nat.shiftLeft_eq]
    have e3 : (i2l (c : Int)).toBitVec.toNat = c := e1
    rw [e3]
    omega
  have e3 : un (v ||| lshl (i2l (c : Int)) (5 * (j : Int))) = un v + c * 2 ^ (5 * j) := by
    show (v ||| lshl (i2l (c : Int)) (5 * (j : Int))).toBitVec.toNat = _
    rw [Int64.toBitVec_or, BitVec.toNat_or]
    have e4 : (lshl (i2l (c : Int)) (5 * (j : Int))).toBitVec.toNat = c * 2 ^ (5 * j) := e2
    have e5 : v.toBitVec.toNat = un v := rfl
    rw [e4, e5, Nat.or_comm, ← Nat.shiftLeft_eq, ← Nat.shiftLeft_add_eq_or_of_lt h2]
    omega
  rw [un_int (by omega), e3, Int.natCast_add, Int.natCast_mul, hu]
theorem q5_add (i m : Nat) : q5 (i + m) = q5 i * q5 m := by
  unfold q5
  rw [Nat.mul_add, Nat.pow_add, Int.natCast_mul]
theorem q5_pos (i : Nat) : 0 < q5 i := by
  unfold q5
  have := Nat.two_pow_pos (5 * i)
  omega
theorem q5_1 : q5 1 = 32 := by decide
theorem old64 {P c : Int} {i j : Nat} (hi : i < j) : (P + c * q5 j) / q5 i % 32 = P / q5 i % 32 := by
  have e : q5 j = q5 i * (32 * q5 (j - 1 - i)) := by
    rw [← q5_1, ← q5_add, ← q5_add]
    congr 1
    omega
  have e2 : P + c * q5 j = P + (c * (32 * q5 (j - 1 - i))) * q5 i := by
    rw [e, Int.mul_comm (q5 i), ← Int.mul_assoc]
  rw [e2, Int.add_mul_ediv_right _ _ (by have := q5_pos i; omega), show c * (32 * q5 (j - 1 - i)) = 32 * (c * q5 (j - 1 - i)) by rw [← Int.mul_assoc, Int.mul_comm c 32, Int.mul_assoc], Int.add_mul_emod_self_left]
theorem new64 {P c : Int} {j : Nat} (hP : 0 ≤ P ∧ P < q5 j) (hc : 0 ≤ c ∧ c < 32) : (P + c * q5 j) / q5 j % 32 = c ∧ 0 ≤ P + c * q5 j ∧ P + c * q5 j < q5 (j + 1) := by
  have h0 := q5_pos j
  have h1 : 0 ≤ c * q5 j := Int.mul_nonneg hc.1 (by omega)
  have h2 : c * q5 j ≤ 31 * q5 j := Int.mul_le_mul_of_nonneg_right (by omega) (by omega)
  refine ⟨?_, by omega, ?_⟩
  · rw [Int.add_mul_ediv_right _ _ (by omega), Int.ediv_eq_zero_of_lt hP.1 hP.2]
    omega
  · rw [q5_add, q5_1]
    omega
/-- row x's longs hold the letters f, L of them -/
def LEx (T : Blk) (x : Nat) (f : Nat → Int) (L : Nat) : Prop := ∀ h, h < 2 → 0 ≤ (LV T (2 * x + h)).toInt ∧ (LV T (2 * x + h)).toInt < q5 (min 12 (L - 12 * h)) ∧ ∀ i, i < min 12 (L - 12 * h) → (LV T (2 * x + h)).toInt / q5 i % 32 = f (12 * h + i)
theorem LEx.congr {T T' : Blk} {x L : Nat} {f f' : Nat → Int} (h : LEx T x f L) (hT : ∀ j, j < 2 → LV T' (2 * x + j) = LV T (2 * x + j)) (hf : ∀ k, k < L → f' k = f k) : LEx T' x f' L := fun j hj => by
  obtain ⟨a1, a2, a3⟩ := h j hj
  rw [hT j hj]
  exact ⟨a1, a2, fun i hi => (a3 i hi).trans (hf _ (by omega)).symm⟩
theorem LEx.zero {T : Blk} {x : Nat} {f : Nat → Int} (h0 : LV T (2 * x) = 0) (h1 : LV T (2 * x + 1) = 0) : LEx T x f 0 := fun j hj => by
  have e : LV T (2 * x + j) = 0 := by
    rcases (show j = 0 ∨ j = 1 by omega) with rfl | rfl
    · exact h0
    · exact h1
  rw [e]
  refine ⟨by decide, ?_, fun i hi => by omega⟩
  rw [show min 12 (0 - 12 * j) = 0 by omega]
  decide
theorem LEx.push {T : Blk} {x L c : Nat} {f : Nat → Int} (h : LEx T x f L) (hL : L < 24) (hc : c < 32) (hf : f L = c) : LEx (upL T (2 * x + L / 12) (LV T (2 * x + L / 12) ||| lshl (i2l (c : Int)) (5 * ((L % 12 : Nat) : Int)))) x f (L + 1) := fun j hj => by
  by_cases e : j = L / 12
  · subst e
    obtain ⟨a1, a2, a3⟩ := h (L / 12) hj
    rw [show min 12 (L - 12 * (L / 12)) = L % 12 by omega] at a2 a3
    rw [LV_s, or64 (by omega) hc ⟨a1, a2⟩, show min 12 (L + 1 - 12 * (L / 12)) = L % 12 + 1 by omega]
    obtain ⟨b1, b2, b3⟩ := new64 (c := (c : Int)) ⟨a1, a2⟩ ⟨by omega, by omega⟩
    refine ⟨b2, b3, fun i hi => ?_⟩
    by_cases ei : i = L % 12
    · rw [ei, b1, show 12 * (L / 12) + L % 12 = L by omega, hf]
    · rw [old64 (by omega)]
      exact a3 i (by omega)
  · obtain ⟨a1, a2, a3⟩ := h j hj
    rw [LV_n (by omega)]
    rw [show min 12 (L + 1 - 12 * j) = min 12 (L - 12 * j) by omega]
    exact ⟨a1, a2, a3⟩
theorem l_letter {T : Blk} {x L : Nat} {f : Nat → Int} (h : LEx T x f L) (hx : x < 6) (hL : L ≤ 24) {k : Nat} (hk : k < L) : g_L_letter T x k = some (f k) := by
  obtain ⟨a1, a2, a3⟩ := h (k / 12) (by omega)
  unfold g_L_letter
  rw [dv_t (by omega), bs, ldL_t (2 * x + k / 12) (by omega) (by omega), bs, rm_t (by omega), bs, show ((k : Int) % 12) = ((k % 12 : Nat) : Int) by omega, dig64 (by omega) a1, a3 (k % 12) (by omega), show 12 * (k / 12) + k % 12 = k by omega]
/-- what low gives -/
theorem l_low {a n : Int} (hn : 0 < n) : ∃ v, g_L_low a n = some v ∧ 0 ≤ v ∧ v < n := by
  have h : 0 ≤ iand a 2147483647 := by
    unfold iand
    have h2 : Int32.ofInt 2147483647 = 2147483647 := rfl
    rw [h2, pk_and (Int32.ofInt a) 31 (by decide), nI_toInt (Nat.mod_lt _ (by decide))]
    omega
  refine ⟨iand a 2147483647 % n, ?_, Int.emod_nonneg _ (by omega), Int.emod_lt_of_pos _ hn⟩
  unfold g_L_low fm
  rw [if_pos ⟨h, hn⟩, bs]
