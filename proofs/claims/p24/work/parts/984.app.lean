/-! PURE: append, by the law *)  -/
def appTail (σ : Blk) (B : Nat → Blk) (nb : Nat) (a c r21 x43 : Int) (j28 : Blk → (Nat → Blk) → Nat → Blk → Option Int) (T : Blk) : Option Int :=
  bd4 (g_X4_append σ B nb a c) fun r49 σ50 B51 N52 =>
  jp (fun (x54 : Int) =>
    if r49 = x54 then (
      j28 σ50 B51 N52 T) else (
      some 0)) fun j53 =>
  if 0 ≤ r21 then (
    Option.bind (ck (x43 + 1)) fun v55 =>
    j53 v55) else (
    j53 ((-1)))
theorem app_no {σ T τ : Blk} {B : Nat → Blk} {nb q : Nat} (h : INV σ B nb T τ) (hq : σ 0 3 = q) {a c x : Int} (hk : rk (vb B q) a = -1) (j28 : Blk → (Nat → Blk) → Nat → Blk → Option Int) : ∃ σ' B' nb' T' τ', appTail σ B nb a c (-1) x j28 T = j28 σ' B' nb' T' ∧ INV σ' B' nb' T' τ' := by
  obtain ⟨hR, hI⟩ := id h
  have hB := hR.2.1
  rw [hq, Int.toNat_natCast] at hB
  obtain ⟨w, σ', B', nb', τ', s1, s2, s3⟩ := append_ok hR a c
  obtain ⟨B'', g1, g2⟩ := to_g b_append s1
  have hf : f_X5_append τ a c = some (-1, τ) := by
    unfold f_X5_append
    rw [x5_rowWith hB.1.2.1, hk, if_pos rfl, bs, if_neg (by decide)]
  rw [hf] at s2
  injection s2 with s2
  injection s2 with s2a s2b
  unfold appTail
  rw [g1, bd4_t, jp_t, if_neg (by decide)]
  dsimp only
  rw [if_pos s2a.symm]
  exact ⟨_, _, _, _, τ', rfl, by rw [g2]; exact s3, by rw [← s2b]; exact hI⟩
theorem app_yes {σ T τ : Blk} {B : Nat → Blk} {nb q : Nat} (h : INV σ B nb T τ) (hq : σ 0 3 = q) {a : Int} {r len c : Nat} (hc : c < 26) (hr : r < 30) (hi : pt (τ 1) r 0 = 1) (hk : rk (vb B q) a = r) (hl : pt (τ 1) r 2 = len) (hlt : len < 24) (j28 : Blk → (Nat → Blk) → Nat → Blk → Option Int) : ∃ T', g_L_write (upL T (2 * r + len / 12) (LV T (2 * r + len / 12) ||| lshl (i2l (c : Int)) (5 * ((len % 12 : Nat) : Int)))) r ((len : Int) + 1) 0 0 4 1 28 2 64 = some (1, T') ∧ ∃ σ' B' nb' τ', appTail σ B nb a c r len j28 T' = j28 σ' B' nb' T' ∧ INV σ' B' nb' T' τ' := by
  obtain ⟨hR, hI⟩ := id h
  have hB := hR.2.1
  rw [hq, Int.toNat_natCast] at hB
  obtain ⟨hS, hRW, hP, hF, hLI, hZ, hW⟩ := hB.1
  have hlr := (hLI r hr hi).2.2.1
  obtain ⟨l6, l0, l1, l2, l3, l4⟩ := hI.2.1.live hr hi
  obtain ⟨τ1, m1, m2, -, -⟩ := x5_moves (σ := τ) (i1 := 1) (n1 := 763) (i3 := 2) (n3 := 763) (a2 := 0) (a4 := 0) 0 0 (by omega) (by omega) (by omega) (by omega) (by omega)
  have et1 : τ1 1 = τ 1 := m2 1 (by omega)
  obtain ⟨z, z1, z2, z3, z4, z5, z6⟩ := x5_takeText (σ := τ1) hr (by rw [et1]; omega) (by rw [et1]; exact hlr)
  rw [et1, hl] at z4 z5 z6
  obtain ⟨u, hu⟩ : ∃ u, up2 (up2 z 8 len c) 0 10 ((len : Int) + 1) = u := ⟨_, rfl⟩
  have u1 : u 1 = τ 1 := by rw [← hu, up2_ne (by omega), up2_ne (by omega), z2 1 (by omega) (by omega)]; exact et1
  have u10 : u 0 10 = (len : Int) + 1 := by rw [← hu, up2_s]
  have u8l : ∀ k : Nat, k < len → u 8 k = lt (τ 1) r k := fun k hk => by rw [← hu, up2_ne (by omega), up2_n (by omega)]; exact z5 k (by omega)
  have u8e : u 8 len = c := by rw [← hu, up2_ne (by omega), up2_s]
  have uh : u 0 4 = τ 0 4 := by rw [← hu, up2_n (by omega), up2_ne (by omega), z3 4 (by omega), m2 0 (by omega)]
  have hLE := hI.2.2.2.1 r l6 hi
  rw [hl, Int.toNat_natCast] at hLE
  have hLE2 : LEx T r (u 8) len := hLE.congr (fun _ _ => rfl) (fun k hk => u8l k hk)
  have hLE3 := hLE2.push hlt (show c < 32 by omega) u8e
  obtain ⟨T', τ2, f1, f2, f3, f4, f5⟩ := wr_again (T0 := T) (T := upL T (2 * r + len / 12) (LV T (2 * r + len / 12) ||| lshl (i2l (c : Int)) (5 * ((len % 12 : Nat) : Int)))) (u := u) (β := vb B q) (r := r) (a := a) (len := (len : Int) + 1) (by rw [u1]; exact hI) (by rw [u1]; exact hB) hr (by rw [u1]; exact hi) hk (fun c hc => upL_ne hc) (fun x j hx hne hj => LV_n (by omega)) u10 (by omega) (fun k hk => by
    by_cases e : k = len
    · rw [e, u8e]
      omega
    · rw [u8l k (by omega)]
      unfold lt
      exact ⟨Int.emod_nonneg _ (by decide), Int.emod_lt_of_pos _ (by decide)⟩) (by rw [show ((len : Int) + 1).toNat = len + 1 by omega]; exact hLE3)
  refine ⟨T', f2, ?_⟩
  obtain ⟨w, σ', B', nb', τ', s1, s2, s3⟩ := append_ok hR a c
  obtain ⟨B'', g1, g2⟩ := to_g b_append s1
  obtain ⟨τ3, r1, r2, r3, -⟩ := x5_record (τ := τ2) (c := 2) (Or.inr rfl) (by rw [f5 4 (by omega), uh]; exact hR.2.2.1.2.1)
  have hf : f_X5_append τ a c = some ((len : Int) + 1, τ3) := by
    have hzc : up2 z 8 len c 0 10 = (len : Int) := by rw [up2_ne (by omega)]; exact z4
    unfold f_X5_append
    rw [x5_rowWith hRW, hk, if_neg (show ¬ (r : Int) = -1 by omega), bs, if_pos (show (r : Int) ≠ -6 by omega), x5_within, if_neg (by omega), if_neg (by omega), bs, if_pos (by decide), x5_part r 2 rfl (by omega) hr (by omega), bs, hl, if_pos (show (len : Int) ≠ 40 by omega), m1, bs, z1, bs, z4, sw_t len rfl (by omega), bs, hzc, ck_t (by omega), bs, pf_t, hu, f1, bd2_t, if_pos (show (1 : Int) ≠ 0 by decide), r1, bs, r3 10 (by omega), f5 10 (by omega), u10]
  rw [hf] at s2
  injection s2 with s2
  injection s2 with s2a s2b
  unfold appTail
  rw [g1, bd4_t, jp_t, if_pos (show (0 : Int) ≤ (r : Int) by omega), ck_t (by omega), bs]
  dsimp only
  rw [if_pos s2a.symm]
  exact ⟨_, _, _, τ', rfl, by rw [g2]; exact s3, by rw [← s2b, r2 1 (by omega) (by omega)]; exact f3⟩
/-- what the law does with an append *)  -/
def appStep (σ : Blk) (B : Nat → Blk) (nb : Nat) (T : Blk) (v20 r41 r21 : Int) (j22 j28 : Blk → (Nat → Blk) → Nat → Blk → Option Int) : Option Int :=
  jp (fun (x43 : Int) =>
    if x43 ≠ 24 then (
      jp (fun (σ45 : Blk) (B46 : Nat → Blk) (N47 : Nat) (τ48 : Blk) => appTail σ45 B46 N47 v20 r41 r21 x43 j28 τ48) fun j44 =>
      if r21 < 0 then (
        j44 σ B nb T) else (
        Option.bind (dv x43 12) fun v56 =>
        Option.bind (ldL T 6 12 ((2 * r21) + v56)) fun l57 =>
        Option.bind (rm_ x43 12) fun v58 =>
        Option.bind (swL T 6 12 ((2 * r21) + v56) (l57 ||| (lshl (i2l r41) (5 * v58)))) fun τ59 =>
        Option.bind (ck (x43 + 1)) fun v60 =>
        bd2 (g_L_write τ59 r21 v60 0 0 4 1 28 2 64) fun r62 τ61 =>
        if r62 ≠ 0 then (
          j44 σ B nb τ61) else (
          some 0))) else (
      j22 σ B nb T)) fun j42 =>
  if 0 ≤ r21 then (
    Option.bind (ld T 1 28 ((4 * r21) + 1)) fun v63 =>
    j42 v63) else (
    j42 0)
theorem st_append {σ T τ : Blk} {B : Nat → Blk} {nb q : Nat} (h : INV σ B nb T τ) (hq : σ 0 3 = q) {a c : Int} (hc : 0 ≤ c ∧ c < 26) (j22 j28 : Blk → (Nat → Blk) → Nat → Blk → Option Int) : appStep σ B nb T a c (rk (vb B q) a) j22 j28 = j22 σ B nb T ∨ ∃ σ' B' nb' T' τ', appStep σ B nb T a c (rk (vb B q) a) j22 j28 = j28 σ' B' nb' T' ∧ INV σ' B' nb' T' τ' := by
  obtain ⟨hR, hI⟩ := id h
  have hB := hR.2.1
  rw [hq, Int.toNat_natCast] at hB
  have hRW := hB.1.2.1
  unfold appStep
  rcases hRW.key a with hk | ⟨r, hr, hk, hi, hka, -⟩
  · rw [hk, jp_t, if_neg (by decide)]
    dsimp only
    rw [if_pos (show (0 : Int) ≠ 24 by decide), jp_t, if_pos (by decide)]
    exact Or.inr (app_no h hq hk j28)
  · obtain ⟨l6, l0, l1, l2, l3, l4⟩ := hI.2.1.live hr hi
    obtain ⟨len, hl⟩ : ∃ len : Nat, pt (τ 1) r 2 = len := ⟨(pt (τ 1) r 2).toNat, by omega⟩
    obtain ⟨c', rfl⟩ : ∃ c' : Nat, c = c' := ⟨c.toNat, by omega⟩
    rw [hk, jp_t, if_pos (by omega), ld_t (4 * r + 1) (by omega) (by omega), bs, l1, hl]
    dsimp only
    by_cases e : (len : Int) = 24
    · rw [if_neg (fun w => w e)]
      exact Or.inl rfl
    · obtain ⟨T', w1, w2⟩ := app_yes h hq (c := c') (by omega) hr hi hk hl (by omega) j28
      rw [if_pos e, jp_t, if_neg (by omega)]
      rw [dv_t (by omega), bs, ldL_t (2 * r + len / 12) (by omega) (by omega), bs, rm_t (by omega), bs, show ((len : Int) % 12) = ((len % 12 : Nat) : Int) by omega, swL_t (2 * r + len / 12) (by omega) (by omega), bs, ck_t (by omega), bs, w1, bd2_t, if_pos (by decide)]
      obtain ⟨σ', B', nb', τ', w3, w4⟩ := w2
      exact Or.inr ⟨σ', B', nb', T', τ', w3, w4⟩
