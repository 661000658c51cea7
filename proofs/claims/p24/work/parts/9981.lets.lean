/-! PURE: the law's letters put on the pad and into its longs *)  -/
theorem PADK.congr {c c' : Nat → Int} {d : Nat} {key : Int} (h : PADK c d key) (e : ∀ j, j < d → c' j = c j) : PADK c' d key := by
  rcases h with ⟨h1, h2, h3⟩ | ⟨h1, h2, h3, h4⟩
  · exact Or.inl ⟨h1, by rw [e 0 (by omega)]; exact h2, h3⟩
  · exact Or.inr ⟨h1, by rw [e 0 (by omega)]; exact h2, by rw [e 1 (by omega)]; exact h3, h4⟩
theorem lets_loop {v16 : Int} {j166 : Blk → (Nat → Blk) → Nat → Blk → Option Int} {T0 : Blk} {r d L : Nat} {key : Int} {s : Nat → Int} (hr : r < 6) (hd : d ≤ 2) (hL : L ≤ 24) : ∀ (e x m : Nat) (σ : Blk) (B : Nat → Blk) (N : Nat) (T τ : Blk), x + e = L → e < m → INV σ B N T0 τ → τ 1 = s → τ 0 8 = ((d + 1 + x : Nat) : Int) → PADK (τ 7) d key → PADL (τ 7) d x → (∀ c, c ≠ 6 → T c = T0 c) → (∀ y j, y < 6 → y ≠ r → j < 2 → LV T (2 * y + j) = LV T0 (2 * y + j)) → LEx T r (fun k => τ 7 (d + 1 + k) - 97) x → ∃ σ' B' N' T' τ', g_L_law_L370 v16 (L : Int) (r : Int) j166 m (x : Int) σ B N T = j166 σ' B' N' T' ∧ INV σ' B' N' T0 τ' ∧ τ' 1 = s ∧ τ' 0 8 = ((d + 1 + L : Nat) : Int) ∧ PADK (τ' 7) d key ∧ PADL (τ' 7) d L ∧ (∀ c, c ≠ 6 → T' c = T0 c) ∧ (∀ y j, y < 6 → y ≠ r → j < 2 → LV T' (2 * y + j) = LV T0 (2 * y + j)) ∧ LEx T' r (fun k => τ' 7 (d + 1 + k) - 97) L := by
  intro e
  induction e with
  | zero =>
    intro x m σ B N T τ hx hm h hs h8 hk hp h6 hv hl
    obtain ⟨m, rfl⟩ : ∃ z, m = z + 1 := ⟨m - 1, by omega⟩
    have ex : x = L := by omega
    subst ex
    refine ⟨σ, B, N, T, τ, ?_, h, hs, h8, hk, hp, h6, hv, hl⟩
    rw [g_L_law_L370, if_pos (Int.le_refl _)]
  | succ e ih =>
    intro x m σ B N T τ hx hm h hs h8 hk hp h6 hv hl
    obtain ⟨m, rfl⟩ : ∃ z, m = z + 1 := ⟨m - 1, by omega⟩
    obtain ⟨z, l1, l2, l3⟩ := l_low (a := ishr v16 ((x : Int) % 23 + 1)) (n := 26) (by omega)
    obtain ⟨z, rfl⟩ : ∃ z' : Nat, z = z' := ⟨z.toNat, by omega⟩
    obtain ⟨σ1, B1, N1, g1, g2⟩ := st_put (c := 97 + z) h h8 (by omega) (by omega)
    have ec : (97 : Int) + (z : Int) = ((97 + z : Nat) : Int) := by omega
    have hput : up2 (up2 τ 7 (d + 1 + x) ((97 + z : Nat) : Int)) 0 8 (((d + 1 + x : Nat) : Int) + 1) 7 = us (τ 7) (d + 1 + x) ((97 + z : Nat) : Int) := by rw [up2_ne (by omega), up2_row]
    have hf : LEx T r (fun k => us (τ 7) (d + 1 + x) ((97 + z : Nat) : Int) (d + 1 + k) - 97) x := hl.congr (fun _ _ => rfl) (fun k hk2 => by
      show us (τ 7) (d + 1 + x) ((97 + z : Nat) : Int) (d + 1 + k) - 97 = τ 7 (d + 1 + k) - 97
      rw [us_n (by omega)])
    have hpush := hf.push (c := z) (by omega) (by omega) (by
      show us (τ 7) (d + 1 + x) ((97 + z : Nat) : Int) (d + 1 + x) - 97 = z
      rw [us_s]
      omega)
    obtain ⟨σ', B', N', T', τ', w1, w2⟩ := ih (x + 1) m σ1 B1 N1 (upL T (2 * r + x / 12) (LV T (2 * r + x / 12) ||| lshl (i2l (z : Int)) (5 * ((x % 12 : Nat) : Int)))) _ (by omega) (by omega) g2 (by rw [up2_ne (by omega), up2_ne (by omega)]; exact hs) (by rw [up2_s]; omega) (by rw [hput]; exact hk.congr (fun j hj => us_n (by omega))) (by
      rw [hput]
      refine ⟨by rw [us_n (by omega)]; exact hp.1, fun y hy => ?_⟩
      by_cases e2 : y = x
      · rw [e2, us_s]
        omega
      · rw [us_n (by omega)]
        exact hp.2 y (by omega)) (fun c hc => (upL_ne hc).trans (h6 c hc)) (fun y j hy hne hj => (LV_n (by omega)).trans (hv y j hy hne hj)) (by rw [hput]; exact hpush)
    refine ⟨σ', B', N', T', τ', ?_, w2⟩
    rw [g_L_law_L370, if_neg (by omega), rm_t (by omega), bs, l1, bs, dv_t (by omega), bs, ldL_t (2 * r + x / 12) (by omega) (by omega), bs, rm_t (by omega), bs, show ((x : Int) % 12) = ((x % 12 : Nat) : Int) by omega, swL_t (2 * r + x / 12) (by omega) (by omega), bs, ec, g1, bd4_t, if_pos (by omega), ck_t (by omega), bs]
    exact w1
