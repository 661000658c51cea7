/-! PURE: the law's choice of a row; the key's digits put *)  -/
theorem l_l201 {T : Blk} {s : Nat → Int} (hI : INVc T s) (j : Int → Option Int) : g_L_law_L201 T 1 j fu 0 = j (fz s : Int) := by
  obtain ⟨z7, z0, zl⟩ := hI.low
  refine loopUp (F := fun m x => g_L_law_L201 T 1 j m (x : Int)) (fz s) (fun m x hx => ?_) (fun m => ?_) fu 0 (by omega) (fu_lt (by omega))
  · show g_L_law_L201 T 1 j (m + 1) (x : Int) = g_L_law_L201 T 1 j m ((x + 1 : Nat) : Int)
    obtain ⟨l6, l0, l1, l2, -⟩ := hI.2.1.live (show x < 30 by omega) (zl x hx)
    rw [g_L_law_L201, if_neg (by decide), if_neg (by omega), ld_t (4 * x + 1) (by omega) (by omega), bs, l1, if_neg (by omega), ck_t (by omega), bs]
    rfl
  · show g_L_law_L201 T 1 j (m + 1) (fz s : Int) = j (fz s : Int)
    rw [g_L_law_L201, if_neg (by decide)]
    by_cases e : fz s = 6
    · rw [if_pos (by omega)]
    · rw [if_neg (by omega), ld_t (4 * fz s + 1) (by omega) (by omega), bs]
      rcases hI.2.1.1 (fz s) (by omega) with ⟨z, -⟩ | ⟨-, z⟩
      · omega
      · rw [z, if_pos (by decide)]
theorem l_l201_0 {T : Blk} (j : Int → Option Int) : g_L_law_L201 T 0 j fu 0 = j 0 := by
  obtain ⟨m, hm⟩ : ∃ m, fu = m + 1 := ⟨fu - 1, by have := fu_lt (k := 0) (by omega); omega⟩
  rw [hm, g_L_law_L201, if_pos rfl]
/-- the digits of a key put on an empty pad, then the sign 61 -/
def digStep (σ : Blk) (B : Nat → Blk) (nb : Nat) (T : Blk) (v20 : Int) (j154 : Int → Blk → (Nat → Blk) → Nat → Blk → Option Int) : Option Int :=
  if v20 ≤ 9 then (
    bd4 (g_X4_put σ B nb (i2l (48 + v20))) fun r199 σ200 B201 N202 =>
    if r199 ≤ 0 then (
      j154 0 σ200 B201 N202 T) else (
      j154 1 σ200 B201 N202 T)) else (
    Option.bind (dv v20 10) fun v203 =>
    bd4 (g_X4_put σ B nb (i2l (48 + v203))) fun r204 σ205 B206 N207 =>
    if r204 ≤ 0 then (
      j154 0 σ205 B206 N207 T) else (
      Option.bind (rm_ v20 10) fun v208 =>
      bd4 (g_X4_put σ205 B206 N207 (i2l (48 + v208))) fun r209 σ210 B211 N212 =>
      if r209 ≤ 0 then (
        j154 0 σ210 B211 N212 T) else (
        j154 1 σ210 B211 N212 T)))
theorem st_digits {σ T τ : Blk} {B : Nat → Blk} {nb : Nat} (h : INV σ B nb T τ) (h8 : τ 0 8 = 0) {v : Nat} (hv : v < 100) (j154 : Int → Blk → (Nat → Blk) → Nat → Blk → Option Int) : ∃ (d : Nat) (σ' : Blk) (B' : Nat → Blk) (nb' : Nat) (τ' : Blk), digStep σ B nb T v j154 = j154 1 σ' B' nb' T ∧ INV σ' B' nb' T τ' ∧ d ≤ 2 ∧ τ' 0 8 = (d : Int) ∧ PADK (τ' 7) d v ∧ τ' 1 = τ 1 := by
  unfold digStep
  by_cases e : v ≤ 9
  · obtain ⟨σ1, B1, n1, g1, g2⟩ := st_put (len := 0) (c := 48 + v) h h8 (by omega) (by omega)
    rw [if_pos (by omega), show (48 : Int) + (v : Int) = ((48 + v : Nat) : Int) by omega, g1, bd4_t, if_neg (by omega)]
    refine ⟨1, σ1, B1, n1, _, rfl, g2, by omega, by rw [up2_s]; rfl, Or.inl ⟨rfl, ?_, by omega, by omega⟩, by rw [up2_ne (by omega), up2_ne (by omega)]⟩
    rw [up2_ne (by omega), up2_s]
    omega
  · obtain ⟨σ1, B1, n1, g1, g2⟩ := st_put (len := 0) (c := 48 + v / 10) h h8 (by omega) (by omega)
    obtain ⟨σ2, B2, n2, k1, k2⟩ := st_put (len := 1) (c := 48 + v % 10) g2 up2_s (by omega) (by omega)
    rw [if_neg (by omega), dv_t (by omega), bs, show (48 : Int) + (v : Int) / 10 = ((48 + v / 10 : Nat) : Int) by omega, g1, bd4_t, if_neg (by omega), rm_t (by omega), bs, show (48 : Int) + (v : Int) % 10 = ((48 + v % 10 : Nat) : Int) by omega, k1, bd4_t, if_neg (by omega)]
    refine ⟨2, σ2, B2, n2, _, rfl, k2, by omega, by rw [up2_s]; rfl, Or.inr ⟨rfl, ?_, ?_, by omega, by omega⟩, by rw [up2_ne (by omega), up2_ne (by omega), up2_ne (by omega), up2_ne (by omega)]⟩
    · rw [up2_ne (by omega), up2_n (by omega), up2_ne (by omega), up2_s]
      omega
    · rw [up2_ne (by omega), up2_s]
      omega
