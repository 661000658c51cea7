/-! PURE: the law's rounds *)  -/
theorem jp_rng {K : Int → Option Int} {f : (Int → Option Int) → Option Int} {b : Int} (hK : ∀ v, 0 ≤ v → v < b → K v = some 1) (hf : ∀ j : Int → Option Int, (∀ v, 0 ≤ v → v < b → j v = some 1) → f j = some 1) : jp K f = some 1 := hf K hK
theorem jp_p {K : Int → Option Int} {f : (Int → Option Int) → Option Int} (P : Int → Prop) (hK : ∀ v, P v → K v = some 1) (hf : ∀ j : Int → Option Int, (∀ v, P v → j v = some 1) → f j = some 1) : jp K f = some 1 := hf K hK
theorem jp_inv {K : Blk → (Nat → Blk) → Nat → Blk → Option Int} {f : (Blk → (Nat → Blk) → Nat → Blk → Option Int) → Option Int} (hK : ∀ σ B N T τ, INV σ B N T τ → K σ B N T = some 1) (hf : ∀ j : Blk → (Nat → Blk) → Nat → Blk → Option Int, (∀ σ B N T τ, INV σ B N T τ → j σ B N T = some 1) → f j = some 1) : jp K f = some 1 := hf K hK
theorem jp_o {K : Option Int} {f : Option Int → Option Int} (hK : K = some 1) (hf : ∀ j, j = some 1 → f j = some 1) : jp K f = some 1 := hf K hK
theorem law_loop {xs : Nat → Int32} {Ls : Nat} : ∀ (e x m : Nat) (σ : Blk) (B : Nat → Blk) (N : Nat) (T τ : Blk), x + e = 22 → e < m → INV σ B N T τ → g_L_law_L84 xs Ls m (x : Int) σ B N T = some 1 := by
  intro e
  induction e with
  | zero =>
    intro x m σ B N T τ hx hm h
    obtain ⟨m, rfl⟩ : ∃ z, m = z + 1 := ⟨m - 1, by omega⟩
    rw [g_L_law_L84, if_pos (by omega)]
  | succ e ih =>
    intro x m σ B N T τ hx hm h
    obtain ⟨m, rfl⟩ : ∃ z, m = z + 1 := ⟨m - 1, by omega⟩
    have hcell : ∀ a : Int, 0 ≤ a → cellP xs Ls a = some (scV xs Ls a) := fun a ha => if_pos ha
    obtain ⟨q, e1, e2, hB⟩ := h.q
    have hRW := hB.1.2.1
    rw [g_L_law_L84, if_neg (by omega), ck_t (by omega), bs, hcell _ (by omega), bs, ck_t (by omega), bs, hcell _ (by omega), bs]
    generalize scV xs Ls (2 * (x : Int)) = v14
    generalize scV xs Ls (2 * (x : Int) + 1) = v16
    refine jp_rng (b := 10) (fun x18 h0 h10 => ?_) (fun j hj => ?_)
    · obtain ⟨z, l1, l2, l3⟩ := l_low (a := ishr v14 4) (n := 8) (by omega)
      obtain ⟨k, rfl⟩ : ∃ k : Nat, z = k := ⟨z.toNat, by omega⟩
      rw [l1, bs, show (k : Int) * 13 = ((13 * k : Nat) : Int) by omega, ck_t (by omega), bs, l_rowOf h.2.2.1 hRW, bs]
      generalize hv : 13 * k = v at *
      have hv100 : v < 100 := by omega
      refine jp_inv (fun σ B N T τ h => ?_) (fun j22 h22 => ?_)
      · rw [ck_t (by omega), bs]
        exact ih (x + 1) m σ B N T τ (by omega) (by omega) h
      refine jp_inv (fun σ B N T τ h => ?_) (fun j28 h28 => ?_)
      · obtain ⟨q, n, hsm⟩ := h.sm
        obtain ⟨c, c1, -⟩ := l_low (a := ishr v16 12) (n := 3) (by omega)
        rw [same_ok hsm, bs, if_neg (by decide), c1, bs]
        split
        · exact h22 σ B N T τ h
        · obtain ⟨σ', B', N', T', τ', w1, w2⟩ := st_would h (ishr v16 3)
          rw [w1]
          exact h22 σ' B' N' T' τ' w2
      have happ : ∀ c : Int, 0 ≤ c → c < 26 → appStep σ B N T v c (rk (vb B q) v) j22 j28 = some 1 := fun c c0 c1 => by
        rcases st_append h e1 (a := v) ⟨c0, c1⟩ j22 j28 with w | ⟨σ', B', N', T', τ', w, w2⟩
        · exact w.trans (h22 σ B N T τ h)
        · exact w.trans (h28 σ' B' N' T' τ' w2)
      by_cases g5 : 5 ≤ x18
      · rw [if_pos g5]
        refine jp_o ?_ (fun j40 h40 => ?_)
        · obtain ⟨c, c1, c2, c3⟩ := l_low (a := v16) (n := 26) (by omega)
          rw [c1, bs]
          exact happ c c2 c3
        · split
          · exact h40
          · split
            · refine jp_o ?_ (fun j64 h64 => ?_)
              · refine jp_o ?_ (fun j65 h65 => ?_)
                · obtain ⟨c, c1, c2, c3⟩ := l_low (a := v16) (n := 2) (by omega)
                  rw [c1, bs]
                  have hset : ∀ u : Int, ((c = 0 ∧ 0 ≤ u ∧ u ≤ 16) ∨ (c = 1 ∧ 4 ≤ u ∧ u ≤ 12)) → (bd4 (g_X4_set σ B N c u) fun r69 σ70 B71 N72 => Option.bind (ld T 0 4 c) fun v73 => if r69 = v73 then Option.bind (sw T 0 4 c u) fun τ74 => j28 σ70 B71 N72 τ74 else some 0) = some 1 := fun u hu => by
                    obtain ⟨σ', B', N', T', τ', w1, w2⟩ := st_set h hu j28
                    exact w1.trans (h28 σ' B' N' T' τ' w2)
                  rw [jp_t]
                  by_cases g0 : c ≠ 0
                  · obtain ⟨u, u1, u2, u3⟩ := l_low (a := ishr v16 2) (n := 9) (by omega)
                    rw [if_pos g0, u1, bs, ck_t (by omega), bs]
                    exact hset _ (Or.inr ⟨by omega, by omega, by omega⟩)
                  · obtain ⟨u, u1, u2, u3⟩ := l_low (a := ishr v16 2) (n := 17) (by omega)
                    rw [if_neg g0, u1, bs]
                    exact hset _ (Or.inl ⟨by omega, by omega, by omega⟩)
                · split
                  · exact h65
                  · obtain ⟨c, c1, -⟩ := l_low (a := v16) (n := 2) (by omega)
                    rw [c1, bs]
                    split
                    · exact h65
                    · obtain ⟨σ', B', N', T', τ', w1, w2⟩ := st_pack h e1 j28
                      exact w1.trans (h28 σ' B' N' T' τ' w2)
              · split
                · exact h64
                · obtain ⟨c, c1, -⟩ := l_low (a := v16) (n := 2) (by omega)
                  rw [c1, bs]
                  split
                  · exact h64
                  · obtain ⟨σ', B', N', T', τ', w1, w2⟩ := st_delete h e1 (a := v) j28
                    exact w1.trans (h28 σ' B' N' T' τ' w2)
            · exact h40
      · rw [if_neg g5]
        obtain ⟨c, c1, -⟩ := l_low (a := ishr v14 8) (n := 3) (by omega)
        rw [c1, bs]
        refine jp_p (fun u => u = 14 ∨ u = 25) (fun u hu => ?_) (fun j hj => ?_)
        · obtain ⟨L, L1, L2, L3⟩ := l_low (a := v16) (n := u) (by omega)
          obtain ⟨L, rfl⟩ : ∃ L' : Nat, L = L' := ⟨L.toNat, by omega⟩
          rw [L1, bs]
          have hwr : ∀ (is : Int) (r : Nat), ((is = 0 ∧ rk (vb B q) v = r) ∨ (is = 1 ∧ rk (vb B q) v = -1 ∧ r = fz (τ 1) ∧ r < 6)) → wrStep σ B N T v16 v L is r j28 = some 1 := fun is r hr => by
            obtain ⟨σ', B', N', T', τ', w1, w2⟩ := st_wrstep (v16 := v16) h e1 hv100 (show L ≤ 24 by omega) hr j28
            exact w1.trans (h28 σ' B' N' T' τ' w2)
          rw [jp_t]
          rcases hRW.key v with hk | ⟨r, hr, hk, -⟩
          · rw [hk, if_neg (by decide)]
            dsimp only
            rw [jp_t, l_l201 h.2]
            rw [jp_t, if_neg (by decide)]
            by_cases g6 : (fz (τ 1) : Int) ≠ 6
            · rw [if_pos g6, jp_t, if_neg (by decide)]
              exact hwr 1 (fz (τ 1)) (Or.inr ⟨rfl, hk, rfl, by have := h.2.low.1; omega⟩)
            · rw [if_neg g6]
              exact h22 σ B N T τ h
          · rw [hk, if_pos (by omega)]
            dsimp only
            rw [jp_t, l_l201_0]
            rw [jp_t, if_pos rfl, jp_t, if_pos rfl]
            exact hwr 0 r (Or.inl ⟨rfl, hk⟩)
        · split
          · exact hj 14 (Or.inl rfl)
          · exact hj 25 (Or.inr rfl)
    · split
      · obtain ⟨c, c1, c2, c3⟩ := l_low (a := v14) (n := 10) (by omega)
        rw [c1, bs]
        exact hj c c2 c3
      · exact hj 0 (by omega) (by omega)
