/-! PURE: most *)  -/
theorem most_loop {q t : Nat} {σ : Blk} {nb : Nat} {a1 : Int} (e1 : σ 0 3 = q) (e2 : σ 0 4 = t) (e3 : q < nb) (e4 : t < nb) (e5 : q ≠ t) (ha : 0 ≤ a1 ∧ a1 < 100) : ∀ (n x : Nat) (B : Nat → Blk) (τ : Blk), x ≤ 41 → x < n → Rel σ B nb τ → ∃ v B' τ', f_X4_most_L16 a1 n ((x : Int) - 1) σ B nb = some (v, σ, B', nb) ∧ f_X5_most_L16 a1 n ((x : Int) - 1) τ = some (v, τ') ∧ Rel σ B' nb τ' := by
  intro n
  induction n with
  | zero => intro x B τ h1 h2; omega
  | succ n ih =>
    intro x B τ hx hn h
    rw [f_X4_most_L16, f_X5_most_L16]
    by_cases ex : x = 0
    · rw [if_pos (by omega), if_pos (by omega)]
      exact ⟨_, _, _, rfl, rfl, h⟩
    · obtain ⟨y, hy⟩ : ∃ y : Nat, x = y + 1 := ⟨x - 1, by omega⟩
      subst hy
      have exy : ((y + 1 : Nat) : Int) - 1 = (y : Int) := by omega
      rw [exy]
      have hR := h.2.1
      rw [e1, Int.toNat_natCast] at hR
      obtain ⟨β', b1, b2⟩ := x0_copyFrom (σ := B t) (τ := B q)
      obtain ⟨τ1, m1, m2, m3, -⟩ := x5_moves (σ := τ) (i1 := 1) (n1 := 763) (i3 := 2) (n3 := 763) (a2 := 0) (a4 := 0) 0 0 (by omega) (by omega) (by omega) (by omega) (by omega)
      have u1 : up2 τ1 0 10 y 1 = τ 1 := by rw [up2_ne (by omega), m2 1 (by omega)]
      have u8 : up2 τ1 0 10 y 8 = τ 8 := by rw [up2_ne (by omega), m2 8 (by omega)]
      have htl := h.2.2.2.2.2.2.2
      have back : ∀ z, Fx (up2 τ1 0 10 y) z → ∃ τ', f_X5_moves z 2 763 0 1 763 0 = some τ' ∧ Rel σ B nb τ' := by
        intro z hz
        obtain ⟨τ', n1, n2, n3, -⟩ := x5_moves (σ := z) (i1 := 2) (n1 := 763) (i3 := 1) (n3 := 763) (a2 := 0) (a4 := 0) 0 0 (by omega) (by omega) (by omega) (by omega) (by omega)
        refine ⟨τ', n1, h.cT (fun j hj => ?_) ⟨fun c hc => ?_, ?_, ?_, TL.of ?_⟩⟩
        · have h1 := n3 j hj
          have h2 := m3 j hj
          rw [Nat.zero_add] at h1 h2
          rw [h1, hz.1 2 (by omega) (by omega) (by omega) (by omega), up2_ne (by omega), h2]
        · rw [n2 c (by omega), hz.1 c (by omega) (by omega) (by omega) (by omega), up2_ne (by omega), m2 c (by omega)]
        · rw [n2 0 (by omega), hz.2 4 (by omega), up2_n (by omega), m2 0 (by omega)]
        · rw [n2 0 (by omega), hz.2 8 (by omega), up2_n (by omega), m2 0 (by omega)]
        · rw [n2 8 (by omega), hz.1 8 (by omega) (by omega) (by omega) (by omega), u8]
      have hk : ∀ (β2 : Blk) (k : Nat), (k : Int) ≠ σ 0 4 → ub (ub B t β') t β2 k = B k := fun β2 k hk => by
        rw [ub_n (by omega), ub_n (by omega)]
      rw [if_neg (by omega), if_neg (by omega), gk_t e2 e4, gk_t e1 e3, ne_t (by omega), b1, cbU_t, gk_t e2 e4, ub_s, m1, bs, pf_t]
      rcases lay_row (β := β') (τ := up2 τ1 0 10 y) (a := a1) (len := y) (by rw [u1]; exact (hR.congrB b2).1) ha up2_s (by omega) (fun k hk => by rw [u8]; exact htl k (by omega)) with ⟨r, β2, τ2, r1, r2, r3, -, r5, -⟩ | ⟨β2, τ2, r2, r3, r5, -⟩
      · obtain ⟨τ', k1, k2⟩ := back τ2 r5
        rw [r2, cbW_t, r3, bd2_t, k1, bs, if_neg (show ¬ (r : Int) = -1 by omega), if_neg (show ¬ ((1 : Int) = 0) by decide)]
        exact ⟨_, _, _, rfl, rfl, k2.cB (hk β2)⟩
      · obtain ⟨τ', k1, k2⟩ := back τ2 r5
        rw [r2, cbW_t, r3, bd2_t, k1, bs, if_pos rfl, if_pos rfl, ck_t (by omega), bs, bs]
        exact ih y _ τ' (by omega) (by omega) (k2.cB (hk β2))
theorem most_ok {σ τ : Blk} {B : Nat → Blk} {nb : Nat} (h : Rel σ B nb τ) (a1 : Int) : ∃ v σ' B' nb' τ', f_X4_most σ B nb a1 = some (v, σ', B', nb') ∧ f_X5_most τ a1 = some (v, τ') ∧ Rel σ' B' nb' τ' := by
  obtain ⟨q, t, e1, e2, e3, e4, e5⟩ := h.1.q
  unfold f_X4_most f_X5_most
  rw [x5_within, bs]
  by_cases g1 : a1 < 0
  · rw [if_pos g1, if_pos g1, if_neg (by decide)]
    exact ⟨_, _, _, _, _, rfl, rfl, h⟩
  rw [if_neg g1, if_neg g1]
  by_cases g2 : a1 < 100
  · rw [if_pos g2, if_neg (show ¬ 99 < a1 by omega), if_pos (by decide)]
    obtain ⟨v, B', τ', b1, b2, b3⟩ := most_loop (a1 := a1) e1 e2 e3 e4 e5 (by omega) fu 41 B τ (by omega) (fu_lt (by omega)) h
    exact ⟨_, _, _, _, _, b1, b2, b3⟩
  · rw [if_neg g2, if_pos (show 99 < a1 by omega), if_neg (by decide)]
    exact ⟨_, _, _, _, _, rfl, rfl, h⟩
