/-! PURE: bestHead *)  -/
theorem best_loop {q t : Nat} {σ : Blk} {nb : Nat} (e1 : σ 0 3 = q) (e2 : σ 0 4 = t) (e4 : t < nb) : ∀ (n : Nat) (x1 x2 x3 : Int) (B : Nat → Blk) (τ : Blk), 0 ≤ x3 → x3 ≤ 20 → 20 - x3 < n → 0 < τ 1 2 → Rel σ B nb τ → ∃ v B' τ', f_X4_bestHead_L20 n x1 x2 x3 σ B nb = some (v, σ, B', nb) ∧ f_X5_bestHead_L7 n x1 x2 x3 τ = some (v, τ') ∧ Rel σ B' nb τ' := by
  intro n
  induction n with
  | zero => intro x1 x2 x3 B τ h1 h2 h3; omega
  | succ n ih =>
    intro x1 x2 x3 B τ h1 h2 h3 hs h
    rw [f_X4_bestHead_L20, f_X5_bestHead_L7]
    dsimp only [jp]
    by_cases g : 16 < x3
    · rw [if_pos g, if_pos g]
      exact ⟨_, _, _, rfl, rfl, h⟩
    · obtain ⟨r, B', τ', t1, t2, t3, t5, t4⟩ := packed_with h (a := x3) (by omega) 0
      rw [if_neg g, if_neg g, ld_t 2 (by omega) (by omega), bs, if_neg (show ¬ τ 1 2 ≤ 0 by omega), t1, bd4_t]
      have hih := fun y1 y2 => ih y1 y2 (x3 + 2) B' τ' (by omega) (by omega) (by omega) (by rw [t5]; exact hs) t3
      rcases t4 with ⟨rfl, w1⟩ | ⟨rfl, v, w1, w2, -⟩
      · rw [w1, bd2_t, if_pos rfl, if_pos rfl, if_pos rfl, if_pos rfl, ck_t (by omega), bs, bs]
        exact hih x1 x2
      · have hv := w2 rfl
        rw [e2, Int.toNat_natCast] at hv
        rw [w1, bd2_t, if_neg (show ¬ ((1 : Int) = 0) by decide), if_neg (show ¬ v = -5 by omega), gk_t e2 e4, hv.1, bs]
        by_cases f1 : x1 = -6
        · rw [if_pos f1, if_pos f1, if_neg (show ¬ ((1 : Int) = 0) by decide), if_neg (show ¬ ((1 : Int) = 0) by decide), ck_t (by omega), bs, bs]
          exact hih x3 v
        · rw [if_neg f1, if_neg f1]
          by_cases f2 : x2 ≤ v
          · rw [if_pos f2, if_pos f2, if_pos rfl, if_pos rfl, ck_t (by omega), bs, bs]
            exact hih x1 x2
          · rw [if_neg f2, if_neg f2, if_neg (show ¬ ((1 : Int) = 0) by decide), if_neg (show ¬ ((1 : Int) = 0) by decide), ck_t (by omega), bs, bs]
            exact hih x3 v
theorem bestHead_ok {σ τ : Blk} {B : Nat → Blk} {nb : Nat} (h : Rel σ B nb τ) : ∃ v σ' B' nb' τ', f_X4_bestHead σ B nb = some (v, σ', B', nb') ∧ f_X5_bestHead τ = some (v, τ') ∧ Rel σ' B' nb' τ' := by
  obtain ⟨q, t, e1, e2, e3, e4, e5⟩ := h.1.q
  have hR := h.2.1
  rw [e1, Int.toNat_natCast] at hR
  have hs2 := hR.1.2.1.s2
  unfold f_X4_bestHead f_X5_bestHead
  rw [gk_t e1 e3, hR.n2]
  by_cases hz : τ 1 2 = 0
  · rw [if_neg (show ¬ τ 1 2 ≠ 0 by omega)]
    refine ⟨_, _, _, _, τ, rfl, ?_, h⟩
    show f_X5_bestHead_L7 ((fu - 1) + 1) _ _ _ _ = _
    rw [f_X5_bestHead_L7, if_neg (by omega), ld_t 2 (by omega) (by omega), bs, if_pos (by omega)]
  · rw [if_pos (show τ 1 2 ≠ 0 from hz)]
    obtain ⟨v, B', τ', b1, b2, b3⟩ := best_loop e1 e2 e4 fu (-6) 0 0 B τ (by omega) (by omega) (by have : (fu : Nat) = 10000 := rfl; omega) (by omega) h
    exact ⟨_, _, _, _, _, b1, b2, b3⟩
