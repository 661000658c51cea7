/-! PURE: the questions: count, key -/
theorem q_key {σ τ : Blk} {B : Nat → Blk} {nb q : Nat} (hq : σ 0 3 = (q : Int)) (hn : q < nb) (h : RB (B q) (τ 1)) (a1 : Int) : ∃ v, f_X4_key σ B nb a1 = some v ∧ f_X5_key τ a1 = some v := by
  obtain ⟨⟨hS, hR, hP, hF, hL, hZ, hW⟩, hT⟩ := h
  have hs2 := hR.s2
  have h02 := hS.2.2
  have hst : ∀ (n x : Nat), x < 100 → (B q 6 x = -1 ∨ kc (B q) x ≠ a1) → f_X4_key_L4 σ B nb a1 (n + 1) (kc (B q) x) (x : Int) = f_X4_key_L4 σ B nb a1 n (kc (B q) (x + 1)) ((x + 1 : Nat) : Int) := by
    intro n x hx ho
    have h2 := kc_rng (B q) x
    rw [f_X4_key_L4, if_neg (by omega), gk_t hq hn, x0_rowOf hR, bs]
    dsimp only [jp]
    have e3 : rk (B q) (x : Int) = B q 6 x := by
      unfold rk
      rw [if_pos (show (0 : Int) ≤ (x : Int) ∧ (x : Int) < 100 by omega), Int.toNat_natCast]
    rw [kc_s, e3]
    by_cases e : B q 6 x = -1
    · rw [if_pos e, ck_t (by omega), bs, if_pos e, Int.add_zero]
      rfl
    · rw [if_neg e, if_pos (show kc (B q) x ≠ a1 by rcases ho with z | z; exact absurd z e; exact z), ck_t (by omega), bs, ck_t (by omega), bs, if_neg e]
      rfl
  have hno : (a1 < 0 ∨ τ 1 2 ≤ a1) → f_X4_key σ B nb a1 = some (-1) := by
    intro ho
    unfold f_X4_key
    refine loopUp (F := fun n (x : Nat) => f_X4_key_L4 σ B nb a1 n (kc (B q) x) (x : Int)) (R := some (-1)) 100 (fun n x hx => hst n x hx ?_) (fun n => ?_) fu 0 (by omega) (fu_lt (by omega))
    · by_cases e : B q 6 x = -1
      · exact .inl e
      · refine .inr ?_
        have h1 := kc_mono (B q) (show x + 1 ≤ 100 by omega)
        have h2 := kc_rng (B q) x
        rw [kc_s, if_neg e, hR.total] at h1
        omega
    · show f_X4_key_L4 _ _ _ _ _ _ _ = _
      rw [f_X4_key_L4, if_pos (by omega)]
  unfold f_X5_key
  rw [ld_t 2 (by omega) (by omega), bs, ck_t (by omega), bs, x5_within, bs]
  by_cases e1 : a1 < 0
  · rw [if_pos e1, if_pos rfl]
    exact ⟨_, hno (.inl e1), rfl⟩
  rw [if_neg e1]
  by_cases e2 : a1 < τ 1 2
  · obtain ⟨k, k1, k2, k3⟩ := kc_find (B q) (i := a1) (by omega) 100 (by rw [hR.total]; exact e2)
    rw [if_neg (show ¬ τ 1 2 - 1 < a1 by omega), if_neg (show ¬ ((1 : Int) = 0) by decide), x5_keyAt hR k1 k2 k3, bs]
    refine ⟨(k : Int), ?_, rfl⟩
    unfold f_X4_key
    refine loopUp (F := fun n (x : Nat) => f_X4_key_L4 σ B nb a1 n (kc (B q) x) (x : Int)) (R := some (k : Int)) k (fun n x hx => hst n x (by omega) ?_) (fun n => ?_) fu 0 (by omega) (fu_lt (by omega))
    · by_cases e : B q 6 x = -1
      · exact .inl e
      · refine .inr ?_
        have h1 := kc_mono (B q) (show x + 1 ≤ k by omega)
        rw [kc_s, if_neg e] at h1
        omega
    · show f_X4_key_L4 _ _ _ _ _ _ _ = _
      have e3 : rk (B q) (k : Int) = B q 6 k := by
        unfold rk
        rw [if_pos (show (0 : Int) ≤ (k : Int) ∧ (k : Int) < 100 by omega), Int.toNat_natCast]
      rw [f_X4_key_L4, if_neg (by omega), gk_t hq hn, x0_rowOf hR, bs, e3]
      dsimp only [jp]
      rw [if_neg k2, if_neg (by omega)]
  · rw [if_pos (show τ 1 2 - 1 < a1 by omega), if_pos rfl]
    exact ⟨_, hno (.inr (by omega)), rfl⟩
theorem q_count {σ τ : Blk} {B : Nat → Blk} {nb q : Nat} (hq : σ 0 3 = (q : Int)) (hn : q < nb) (h : RB (B q) (τ 1)) (hp : σ 1 1 = τ 0 8) (hr : σ 6 1 = τ 0 4) (a1 : Int) : ∃ v τ', f_X4_count σ B nb a1 = some v ∧ f_X5_count τ a1 = some (v, τ') ∧ Fz τ τ' := by
  have hc := h.1
  obtain ⟨⟨hS, hR, hP, hF, hL, hZ, hW⟩, hT⟩ := h
  have hs2 := hR.s2
  unfold f_X4_count f_X5_count
  simp only [gk_t hq hn]
  by_cases e0 : a1 = 0
  · rw [if_pos e0, if_pos e0, ld_t 2 (by omega) (by omega), bs, hS.2.2]
    exact ⟨_, _, rfl, rfl, Fz.rf⟩
  rw [if_neg e0, if_neg e0]
  by_cases e1 : a1 = 1
  · rw [if_pos e1, if_pos e1, x3_pagesInUse hP, bs, x5_pagesWith, bs]
    exact ⟨_, _, rfl, rfl, Fz.rf⟩
  rw [if_neg e1, if_neg e1]
  by_cases e2 : a1 = 2
  · rw [if_pos e2, if_pos e2, x3_inAll hP (by decide), bs, x5_thingsOf hP.1, bs]
    exact ⟨_, _, rfl, rfl, Fz.rf⟩
  rw [if_neg e2, if_neg e2]
  by_cases e3 : a1 = 3
  · rw [if_pos e3, if_pos e3, x3_inAll hP (by decide), bs, x5_thingsOf hP.1, bs]
    exact ⟨_, _, rfl, rfl, Fz.rf⟩
  rw [if_neg e3, if_neg e3]
  by_cases e4 : a1 = 4
  · rw [if_pos e4, if_pos e4, x3_freeInAll hP, bs, x5_allFree hP, bs]
    exact ⟨_, _, rfl, rfl, Fz.rf⟩
  rw [if_neg e4, if_neg e4]
  by_cases e5 : a1 = 5
  · obtain ⟨u, u1, u2⟩ := x5_sumOfCosts hc
    rw [if_pos e5, if_pos e5, x0_costInAll hc, bs, u1, bd2_t]
    exact ⟨_, _, rfl, rfl, u2⟩
  rw [if_neg e5, if_neg e5]
  by_cases e6 : a1 = 6
  · rw [if_pos e6, if_pos e6, x0_letters hc, bs, x5_allLetters hc, bs]
    exact ⟨_, _, rfl, rfl, Fz.rf⟩
  rw [if_neg e6, if_neg e6]
  by_cases e7 : a1 = 7
  · obtain ⟨u, u1, u2⟩ := x5_greatest hc
    rw [if_pos e7, if_pos e7, u1, bd2_t, x0_greatest hc, bs, hS.2.2]
    have hg := gm_two (f := cst (B q)) (P := fun r => pt (τ 1) r 0 = 1) 30 (fun i hi hpi => cst_rng hF hi hpi)
    rcases hg with ⟨g1, g2, g3⟩ | ⟨⟨i, i1, i2⟩, g2, g3⟩
    · have hz : τ 1 2 = 0 := by
        rw [hR.2.2, sumN_congr (g := fun _ => 0) (fun i hi => by
          have := hR.is hi
          have := g1 i hi
          show pt (τ 1) i 0 = 0
          omega), sumN_const]
        omega
      rw [if_neg (by omega), g3]
      exact ⟨_, _, rfl, rfl, u2⟩
    · have hz : τ 1 2 ≠ 0 := by
        have h1 := sumN_ge (f := fun r => pt (τ 1) r 0) (n := 30) (k := i) i1 (fun j hj => by show 0 ≤ pt (τ 1) j 0; have := hR.is hj; omega)
        rw [hR.2.2]
        have h2 : pt (τ 1) i 0 = 1 := i2
        omega
      rw [if_pos hz, g2]
      exact ⟨_, _, rfl, rfl, u2⟩
  rw [if_neg e7, if_neg e7]
  by_cases e8 : a1 = 8
  · rw [if_pos e8, if_pos e8, ld_t 0 (by omega) (by omega), bs, hS.1.1]
    exact ⟨_, _, rfl, rfl, Fz.rf⟩
  rw [if_neg e8, if_neg e8]
  by_cases e9 : a1 = 9
  · rw [if_pos e9, if_pos e9, ld_t 1 (by omega) (by omega), bs, hS.2.1.1]
    exact ⟨_, _, rfl, rfl, Fz.rf⟩
  rw [if_neg e9, if_neg e9]
  by_cases e10 : a1 = 10
  · rw [if_pos e10, if_pos e10, hp]
    exact ⟨_, _, rfl, rfl, Fz.rf⟩
  rw [if_neg e10, if_neg e10]
  by_cases e11 : a1 = 11
  · rw [if_pos e11, if_pos e11, hr]
    exact ⟨_, _, rfl, rfl, Fz.rf⟩
  rw [if_neg e11, if_neg e11]
  exact ⟨_, _, rfl, rfl, Fz.rf⟩
