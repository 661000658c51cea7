/-! PURE: the reference's write of one row of the pad *)  -/
/-- the pad: a key, a sign 61, L letters -/
def PADK (c : Nat → Int) (d : Nat) (key : Int) : Prop := (d = 1 ∧ c 0 = 48 + key ∧ 0 ≤ key ∧ key ≤ 9) ∨ (d = 2 ∧ c 0 = 48 + key / 10 ∧ c 1 = 48 + key % 10 ∧ 10 ≤ key ∧ key ≤ 99)
def PADL (c : Nat → Int) (d L : Nat) : Prop := c d = 61 ∧ ∀ x, x < L → 97 ≤ c (d + 1 + x) ∧ c (d + 1 + x) ≤ 122
theorem ff_lets {τ : Blk} {j : Int → Option Int} {d L : Nat} {key : Int} (hlen : τ 0 8 = ((d + 1 + L : Nat) : Int)) (h80 : d + 1 + L ≤ 80) (hL : L ≤ 40) (hc : PADL (τ 7) d L) : ∀ (e x m : Nat), x + e = L → e < m → f_X5_findFault_L8 τ j m key (x : Int) ((d + 1 + x : Nat) : Int) = j (L : Int) := by
  intro e
  induction e with
  | zero =>
    intro x m hx hm
    obtain ⟨m, rfl⟩ : ∃ z, m = z + 1 := ⟨m - 1, by omega⟩
    have ex : x = L := by omega
    subst ex
    exact ff_end hlen
  | succ e ih =>
    intro x m hx hm
    obtain ⟨m, rfl⟩ : ∃ z, m = z + 1 := ⟨m - 1, by omega⟩
    have hv := hc.2 x (by omega)
    rw [ff_L (v := τ 7 (d + 1 + x)) (by omega) (by omega) rfl (if_neg (by omega)) (if_neg (by omega)) (if_pos (by omega)) (if_neg (by omega)) (by unfold inR; omega)]
    exact ih (x + 1) m (by omega) (by omega)
theorem ff_pad {τ : Blk} {d L : Nat} {key : Int} (hlen : τ 0 8 = ((d + 1 + L : Nat) : Int)) (h80 : d + 1 + L ≤ 80) (hL : L ≤ 40) (hk : PADK (τ 7) d key) (hc : PADL (τ 7) d L) : f_X5_findFault τ = some (-6) := by
  obtain ⟨m, hm, hm2⟩ : ∃ m, fu = m + 3 ∧ 100 < m := ⟨fu - 3, by have := fu_lt (k := 1000) (by omega); omega, by have := fu_lt (k := 1000) (by omega); omega⟩
  have hS : ∀ (n : Nat) (k2 : Int) (j : Int → Option Int), L < n → k2 ≠ -6 → f_X5_findFault_L8 τ j (n + 1) k2 (-6) (d : Int) = j (L : Int) := fun n k2 j hn hk2 => by
    rw [ff_S (v := 61) (by omega) (by rcases hk with ⟨z, -⟩ | ⟨z, -⟩ <;> omega) hc.1 (if_neg (by omega)) (if_pos ⟨rfl, rfl, hk2⟩) (if_neg (by omega)) (if_neg (by omega))]
    exact ff_lets (key := k2) hlen h80 hL hc L 0 n (by omega) hn
  unfold f_X5_findFault
  rw [jp_t, hm]
  rcases hk with ⟨h1, h2, h3, h4⟩ | ⟨h1, h2, h2', h3, h4⟩
  · subst h1
    have e := ff_D (τ := τ) (j := fun (x2 : Int) => if x2 ≠ (-6) then some (-6) else some (τ 0 8)) (n := m + 2) (key := -6) (lets := -6) (k := 0) (v := τ 7 0) (by omega) (by omega) rfl (if_pos (by omega)) (if_neg (by omega)) (by rw [if_pos rfl]; unfold inR; omega) (if_neg (by omega)) (if_neg (by omega))
    refine e.trans ?_
    rw [if_pos rfl]
    have := hS (m + 1) (τ 7 0 - 48) (fun (x2 : Int) => if x2 ≠ (-6) then some (-6) else some (τ 0 8)) (by omega) (by omega)
    refine this.trans ?_
    rw [if_pos (by omega)]
  · subst h1
    have e := ff_D (τ := τ) (j := fun (x2 : Int) => if x2 ≠ (-6) then some (-6) else some (τ 0 8)) (n := m + 2) (key := -6) (lets := -6) (k := 0) (v := τ 7 0) (by omega) (by omega) rfl (if_pos (by omega)) (if_neg (by omega)) (by rw [if_pos rfl]; unfold inR; omega) (if_neg (by omega)) (if_neg (by omega))
    refine e.trans ?_
    rw [if_pos rfl]
    have e2 := ff_D (τ := τ) (j := fun (x2 : Int) => if x2 ≠ (-6) then some (-6) else some (τ 0 8)) (n := m + 1) (key := τ 7 0 - 48) (lets := -6) (k := 1) (v := τ 7 1) (by omega) (by omega) rfl (if_pos (by omega)) (if_neg (by omega)) (by rw [if_neg (by omega)]; unfold inR; omega) (if_neg (by omega)) (if_neg (by omega))
    refine e2.trans ?_
    rw [if_neg (by omega)]
    have := hS m (10 * (τ 7 0 - 48) + τ 7 1 - 48) (fun (x2 : Int) => if x2 ≠ (-6) then some (-6) else some (τ 0 8)) (by omega) (by omega)
    refine this.trans ?_
    rw [if_pos (by omega)]
theorem kv_pad {c : Nat → Int} {d : Nat} {key : Int} (hk : PADK c d key) : kv c 0 d = key ∧ (∀ n, n ≤ d → 0 ≤ kv c 0 n ∧ kv c 0 n < 100) ∧ ∀ n, n < d → c (0 + n) ≠ 61 := by
  have k1 : kv c 0 1 = c 0 - 48 := by
    show 0 * 10 + c 0 - 48 = _
    omega
  have k2 : kv c 0 2 = (c 0 - 48) * 10 + c 1 - 48 := by
    show kv c 0 1 * 10 + c (0 + 1) - 48 = _
    rw [k1]
  have k0 : kv c 0 0 = 0 := rfl
  rcases hk with ⟨rfl, h2, h3, h4⟩ | ⟨rfl, h2, h2', h3, h4⟩
  · refine ⟨by omega, fun n hn => ?_, fun n hn => ?_⟩
    · rcases (show n = 0 ∨ n = 1 by omega) with rfl | rfl <;> omega
    · have e : n = 0 := by omega
      subst e
      show c 0 ≠ 61
      omega
  · refine ⟨by omega, fun n hn => ?_, fun n hn => ?_⟩
    · rcases (show n = 0 ∨ n = 1 ∨ n = 2 by omega) with rfl | rfl | rfl <;> omega
    · rcases (show n = 0 ∨ n = 1 by omega) with rfl | rfl
      · show c 0 ≠ 61
        omega
      · show c 1 ≠ 61
        omega
theorem ref_write {τ : Blk} {d L : Nat} {key : Int} (hlen : τ 0 8 = ((d + 1 + L : Nat) : Int)) (h80 : d + 1 + L ≤ 80) (hL : L ≤ 40) (hk : PADK (τ 7) d key) (hc : PADL (τ 7) d L) (hh : 0 ≤ τ 0 4 ∧ τ 0 4 ≤ 6) : ∃ u, (∀ j, j ≠ 10 → j ≠ 4 → u 0 j = τ 0 j) ∧ u 1 = τ 1 ∧ u 0 10 = (L : Int) ∧ (∀ x, x < L → u 8 x = τ 7 (d + 1 + x) - 97) ∧ ∀ τ2, τ2 0 8 = u 0 8 → f_X5_writes u key = some (1, τ2) → f_X5_write τ = some (1, up2 τ2 0 8 0) := by
  obtain ⟨τ1, r1, r2, r3, -⟩ := x5_record (τ := τ) (c := 1) (Or.inl rfl) hh
  have e7 : τ1 7 = τ 7 := r2 7 (by omega) (by omega)
  have e8 : τ1 0 8 = ((d + 1 + L : Nat) : Int) := (r3 8 (by omega)).trans hlen
  obtain ⟨kv1, kv2, kv3⟩ := kv_pad hk
  obtain ⟨u, u1, u2, u3, u4, u5, u6⟩ := let_loop (τ := up2 τ1 0 10 0) (len := d + 1 + L) (T := d + 1) (L := L) (by rw [up2_n (by omega)]; exact e8) up2_s (Nat.le_refl _) h80 hL (by rw [up2_ne (by omega), e7]; exact hc.2) (Or.inl rfl)
  have hu8 : ∀ j, j ≠ 10 → j ≠ 4 → u 0 j = τ 0 j := fun j j1 j2 => by rw [u3 j j1, up2_n (by omega)]; exact r3 j j2
  refine ⟨u, hu8, by rw [u2 1 (by omega) (by omega), up2_ne (by omega), r2 1 (by omega) (by omega)], u4, fun x hx => by rw [u5 x hx, up2_ne (by omega), e7], fun τ2 h28 hw => ?_⟩
  have hkl := key_loop (τ := τ1) (s := 0) (d := d) (by rw [e7, Nat.zero_add]; exact hc.1) (by rw [e7]; exact kv3) (by rw [e7]; exact kv2) (by omega)
  rw [Nat.zero_add, e7, kv1] at hkl
  have hmod : ∀ (j3 : Int → Blk → Option (Int × Blk)) (n : Nat), f_X5_write_L26 j3 (n + 1) 0 0 1 τ1 = f_X5_write_L26 j3 n 1 ((d + 1 + L + 1 : Nat) : Int) 1 τ2 := fun j3 n => by
    have hkl' := hkl (fun (x12 : Int) (x13 : Int) =>
        Option.bind (ck (x12 + 1)) fun v14 =>
        pf τ1 0 10 0 fun σ15 =>
        jp (fun (x17 : Int) (σ18 : Blk) =>
          Option.bind (ck (x17 + 1)) fun v19 =>
          bd2 (f_X5_writes σ18 x13) fun r20 σ21 =>
          jp (fun (x23 : Int) =>
            Option.bind (ck (0 + x23)) fun v24 =>
            f_X5_write_L26 j3 n v24 v19 r20 σ21) fun j22 =>
          if r20 = 0 then (
            j22 0) else (
            j22 1)) fun j16 =>
        f_X5_write_L83 j16 fu v14 σ15)
    rw [f_X5_write_L26, if_neg (show ¬ ((1 : Int) = 0) by decide), e8, if_neg (by omega), jp_t]
    refine hkl'.trans ?_
    rw [show (d : Int) + 1 = ((d + 1 : Nat) : Int) by omega, ck_t (a := ((d + 1 : Nat) : Int)) (by omega), bs, pf_t, jp_t, u1, show ((d + 1 + L : Nat) : Int) + 1 = ((d + 1 + L + 1 : Nat) : Int) by omega, ck_t (a := ((d + 1 + L + 1 : Nat) : Int)) (by omega), bs, hw, bd2_t, jp_t, if_neg (show ¬ ((1 : Int) = 0) by decide)]
    dsimp only
    rw [ck_t (by omega), bs]
    rfl
  obtain ⟨m, hm⟩ : ∃ m, fu = m + 2 := ⟨fu - 2, by have := fu_lt (k := 1) (by omega); omega⟩
  unfold f_X5_write
  rw [ff_pad hlen h80 hL hk hc, bs, if_pos rfl, r1, bs, jp_t, hm, hmod, f_X5_write_L26, if_neg (show ¬ ((1 : Int) = 0) by decide), h28, hu8 8 (by omega) (by omega), hlen, if_pos (by omega)]
  rw [pf_t]
