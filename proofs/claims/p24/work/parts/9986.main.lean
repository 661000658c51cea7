/-! PURE: the start; the law comes out 1 *)  -/
theorem vb_Bst {z : Blk × Blk × Blk} : vb (Bst z) = Bst (z.1, VW z.2.1, VW z.2.2) := by
  funext k
  unfold vb Bst
  by_cases e : k = 0
  · rw [if_pos e, if_pos e]
  · rw [if_neg e, if_neg e]
theorem init_both {z : Blk × Blk × Blk} (h : f_X4_init = some z) : ∃ y : Blk × Blk × Blk, g_X4_init = some y ∧ z = (y.1, VW y.2.1, VW y.2.2) := by
  have hh : f_X4_init = Option.bind f_X0_init fun β1 => Option.bind f_X0_init fun β2 => some (iniX (fun _ _ => 0) iniH, β1, β2) := rfl
  have hg : g_X4_init = Option.bind g_X0_init fun β1 => Option.bind g_X0_init fun β2 => some (iniX (fun _ _ => 0) iniH, β1, β2) := rfl
  rw [hh] at h
  obtain ⟨β1, h1, h2⟩ := Option.bind_eq_some_iff.mp h
  unfold f_X0_init at h1 h2
  obtain ⟨β, h3, h4⟩ := Option.bind_eq_some_iff.mp h1
  rw [h3, bs, bs] at h2
  refine ⟨(iniX (fun _ _ => 0) iniH, β, β), ?_, ?_⟩
  · rw [hg, h3, bs, bs]
  · rw [← Option.some.inj h2, ← Option.some.inj h4]
theorem l59_loop {j3 : Blk → (Nat → Blk) → Nat → Blk → Option Int} {σ : Blk} {B : Nat → Blk} {N : Nat} {T0 : Blk} : ∃ T', g_L_law_L59 j3 fu 0 σ B N T0 = j3 σ B N T' ∧ (∀ c, c ≠ 1 → T' c = T0 c) ∧ ∀ y, y < 7 → T' 1 (4 * y + 1) = -1 := by
  refine loopSt (F := fun m (x : Nat) (z : Blk) => g_L_law_L59 j3 m (x : Int) σ B N z) (P := fun x z => (∀ c, c ≠ 1 → z c = T0 c) ∧ ∀ y, y < x → z 1 (4 * y + 1) = -1) (Q := fun o => ∃ T', o = j3 σ B N T' ∧ (∀ c, c ≠ 1 → T' c = T0 c) ∧ ∀ y, y < 7 → T' 1 (4 * y + 1) = -1) 7 (fun m x z hx hp => ?_) (fun m z hp => ?_) fu 0 T0 (by omega) (fu_lt (by omega)) ⟨fun _ _ => rfl, fun y hy => by omega⟩
  · refine ⟨up2 z 1 (4 * x + 1) (-1), ?_, fun c hc => (up2_ne hc).trans (hp.1 c hc), fun y hy => ?_⟩
    · show g_L_law_L59 j3 (m + 1) (x : Int) σ B N z = _
      rw [g_L_law_L59, if_neg (by omega), sw_t (4 * x + 1) (by omega) (by omega), bs, ck_t (by omega), bs]
      rfl
    · by_cases e : y = x
      · rw [e, up2_s]
      · rw [up2_n (by omega)]
        exact hp.2 y (by omega)
  · refine ⟨z, ?_, hp.1, hp.2⟩
    show g_L_law_L59 j3 (m + 1) ((7 : Nat) : Int) σ B N z = _
    rw [g_L_law_L59, if_pos (by omega)]
theorem main_true (xs : Nat → Int32) {L : Nat} (hL : L ≤ 260) : g_main xs L = some 1 := by
  obtain ⟨z, τ, z1, z2, z3⟩ := rel_start
  obtain ⟨y, y1, y2⟩ := init_both z1
  rw [y2, ← vb_Bst] at z3
  have hτ : τ = up2 (up2 (fun _ _ => 0) 1 0 6) 1 1 8 := by
    unfold f_X5_init at z2
    rw [sw_t 0 (by omega) (by omega), bs, sw_t 1 (by omega) (by omega), bs] at z2
    exact (Option.some.inj z2).symm
  have s0 : ∀ j, 2 ≤ j → τ 1 j = 0 := fun j hj => by rw [hτ, up2_n (by omega), up2_n (by omega)]
  have s00 : τ 1 0 = 6 := by rw [hτ, up2_n (by omega), up2_s]
  have s01 : τ 1 1 = 8 := by rw [hτ, up2_s]
  unfold g_main
  rw [y1, bs]
  unfold g_L_law
  rw [sw_t 0 (by omega) (by omega), bs, sw_t 1 (by omega) (by omega), bs, jp_t]
  obtain ⟨T', w1, w2, w3⟩ := l59_loop (j3 := fun (σ4 : Blk) (B5 : Nat → Blk) (N6 : Nat) (τ7 : Blk) => g_L_law_L84 xs L 30 0 σ4 B5 N6 τ7) (σ := y.1) (B := Bst y) (N := 2) (T0 := up2 (up2 tau0 0 0 6) 0 1 8)
  rw [w1]
  have t0 : ∀ c j, c < 6 → tau0 c j = 0 := fun c j hc => by
    unfold tau0
    rw [if_neg (by omega)]
  have hW : ∀ (g : Int → Int) (g0 : g 0 = 0) x, Wg g (τ 1) x = 0 := fun g g0 x => Wg_none g0 (fun p hp h0 => absurd (s0 (363 + p) (by omega)) h0)
  have hp0 : ∀ x, pt (τ 1) x 0 = 0 := fun x => s0 _ (by omega)
  refine law_loop 22 0 30 _ _ _ _ τ (by omega) (by omega) ⟨z3, ⟨0, ⟨?_, by omega⟩, fun k hk => by omega, fun k k' hk => by omega, fun p hp h0 => absurd (s0 (363 + p) (by omega)) h0⟩, ⟨fun x hx => Or.inr ⟨hp0 x, w3 x (by omega)⟩, fun x _ _ => hp0 x⟩, ?_, fun x hx hi => ?_, fun x hx => ?_, by omega⟩
  · rw [w2 0 (by omega), up2_n (by omega), up2_n (by omega), t0 0 3 (by omega)]
    rfl
  · rw [w2 0 (by omega), up2_n (by omega), up2_s, up2_s, up2_n (by omega), up2_n (by omega), t0 0 2 (by omega), s00, s01, s0 2 (by omega)]
    exact ⟨rfl, rfl, rfl⟩
  · rw [hp0 x] at hi
    omega
  · rw [hW cl cl_0, hW one one_0]
    omega
