/-! PURE: the start, and the law's loop *)  -/
theorem x4_init : ∃ z : Blk × Blk × Blk, f_X4_init = some z ∧ z.1 = iniX (fun _ _ => 0) iniH ∧ ∀ s : Nat → Int, s 0 = 6 → s 1 = 8 → (∀ j, 2 ≤ j → j < 763 → s j = 0) → RB z.2.1 s ∧ RB z.2.2 s := by
  obtain ⟨β, b1, b2⟩ := x0_init
  have hh : f_X4_init = Option.bind f_X0_init fun β1 => Option.bind f_X0_init fun β2 => some (iniX (fun _ _ => 0) iniH, β1, β2) := rfl
  refine ⟨(iniX (fun _ _ => 0) iniH, β, β), ?_, rfl, fun s s0 s1 sj => ⟨b2 s s0 s1 sj, b2 s s0 s1 sj⟩⟩
  rw [hh, b1, bs, bs]
theorem rel_start : ∃ (z : Blk × Blk × Blk) (τ : Blk), f_X4_init = some z ∧ f_X5_init = some τ ∧ Rel z.1 (Bst z) 2 τ := by
  obtain ⟨z, z1, z2, z3⟩ := x4_init
  refine ⟨z, up2 (up2 (fun _ _ => 0) 1 0 6) 1 1 8, z1, ?_, ?_⟩
  · unfold f_X5_init
    rw [sw_t (i := 0) 0 (by omega) (by omega), bs, sw_t (i := 1) 1 (by omega) (by omega), bs]
  · obtain ⟨h1, h2⟩ := z3 (up2 (up2 (fun _ _ => 0) 1 0 6) 1 1 8 1) (by rw [up2_n (by omega), up2_s]) (by rw [up2_s]) (fun j h2 _ => by rw [up2_n (by omega), up2_n (by omega)])
    have t0 : ∀ c, c ≠ 1 → ∀ j, up2 (up2 (fun _ _ => (0 : Int)) 1 0 6) 1 1 8 c j = 0 := fun c hc j => by rw [up2_ne hc, up2_ne hc]
    have r0 : z.1 0 3 = 0 := by rw [z2]; rfl
    have r1 : z.1 0 4 = 1 := by rw [z2]; rfl
    have r7 : ∀ j, z.1 7 j = -1 := fun j => by rw [z2]; rfl
    have r8 : ∀ j, z.1 8 j = -1 := fun j => by rw [z2]; rfl
    have r6 : ∀ j, z.1 6 j = 0 := fun j => by rw [z2]; rfl
    have rr : ∀ i, rf z.1 i = if i = 0 then 0 else if i = 1 then 1 else -1 := fun i => by
      unfold rf
      rw [r0, r1]
      by_cases i0 : i = 0
      · rw [if_pos i0, if_pos i0]
      rw [if_neg i0, if_neg i0]
      by_cases i1 : i = 1
      · rw [if_pos i1, if_pos i1]
      rw [if_neg i1, if_neg i1]
      split
      · exact r7 _
      · exact r8 _
    refine ⟨⟨?_, ?_, fun i hi => ?_, fun i j hi hj hne hp => ?_, ?_⟩, ?_, ⟨?_, ?_, ?_, fun i hi => ?_⟩, fun i hi => Or.inl ⟨?_, t0 6 (by omega) i⟩, ?_, ?_, fun j hj => ?_, fun k hk => ?_⟩
    · rw [rr, if_pos rfl]; decide
    · rw [rr, if_neg (by omega), if_pos rfl]; decide
    · rw [rr]
      split
      · omega
      · split <;> omega
    · rw [rr] at hp ⊢
      rw [rr j]
      by_cases i0 : i = 0
      · rw [if_pos i0, if_neg (by omega)]
        split <;> omega
      rw [if_neg i0] at hp ⊢
      by_cases i1 : i = 1
      · rw [if_pos i1]
        split
        · omega
        · rw [if_neg (by omega)]; omega
      · rw [if_neg i1] at hp
        omega
    · have e : sumN (fun i => if rf z.1 i < 0 then (1 : Int) else 0) 10 = sumN (fun i => if i < 2 then (0 : Int) else 1) 10 := sumN_congr (fun i hi => by
        show (if rf z.1 i < 0 then (1 : Int) else 0) = if i < 2 then 0 else 1
        rw [rr]
        by_cases i0 : i = 0
        · rw [if_pos i0, if_neg (by omega), if_pos (by omega)]
        rw [if_neg i0]
        by_cases i1 : i = 1
        · rw [if_pos i1, if_neg (by omega), if_pos (by omega)]
        · rw [if_neg i1, if_pos (by omega), if_neg (by omega)])
      rw [e]
      decide
    · rw [r0]
      exact h1
    · rw [r6, t0 0 (by omega)]
    · rw [t0 0 (by omega)]; decide
    · rw [r6]; decide
    · rw [t0 0 (by omega)] at hi
      omega
    · rw [r8]; decide
    · rw [t0 0 (by omega), z2]; rfl
    · rw [t0 0 (by omega)]; decide
    · rw [t0 0 (by omega)] at hj
      omega
    · rw [t0 8 (by omega)]; decide
theorem jp_any {γ δ : Type} {K : γ} {f : γ → δ} {Q : δ → Prop} (P : γ → Prop) (h1 : P K) (h2 : ∀ j, P j → Q (f j)) : Q (jp K f) := h2 K h1
