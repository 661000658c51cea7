/-! PURE: what all rows answer -/
def cst (β : Blk) (r : Nat) : Int := costV (β 10 r) (β 9 r) (β (13 + r)) (β 11 r).toNat
theorem cst_rng {β : Blk} {s : Nat → Int} {w : Nat → Prop} (h : FI s w (β 10) (β 9) (β 11) (PP β) (fun _ => False)) {r : Nat} (hr : r < 30) (hw : w r) : 1 ≤ cst β r ∧ cst β r ≤ 42 := by
  have h1 := (h.own hr hw).2.2.2.2.1
  have h2 := cost_rng (β 10 r) (β (13 + r)) (β 11 r).toNat
  unfold cst costV
  split <;> omega
def cs (β : Blk) (s : Nat → Int) (r : Nat) : Int := if pt s r 0 = 1 then cst β r else 0
theorem RBc.cs {β : Blk} {s : Nat → Int} (h : RBc (isr s) β s) {r : Nat} (hr : r < 30) : 0 ≤ cs β s r ∧ cs β s r ≤ 42 := by
  show 0 ≤ (if pt s r 0 = 1 then cst β r else 0) ∧ (if pt s r 0 = 1 then cst β r else 0) ≤ 42
  split
  · rename_i hi
    have := cst_rng h.2.2.2.1 hr hi
    omega
  · omega
theorem RW.iff {β : Blk} {s : Nat → Int} (h : RW β s) {r : Nat} (hr : r < 30) : β 7 r = -1 ↔ pt s r 0 ≠ 1 := by
  rcases h.1 r hr with h1 | h1
  · constructor
    · intro; omega
    · intro z; exact absurd h1.1 z
  · constructor
    · intro; omega
    · intro; exact h1.2
theorem x0_costInAll {β : Blk} {s : Nat → Int} (h : RBc (isr s) β s) : f_X0_costInAll β = some (sumN (cs β s) 30) := by
  have key := loopUp (F := fun n (x : Nat) => f_X0_costInAll_L4 β n (sumN (cs β s) x) (x : Int)) (R := some (sumN (cs β s) 30)) 30 (fun n x hx => ?_) (fun n => ?_) fu 0 (by omega) (fu_lt (by omega))
  · exact key
  · show f_X0_costInAll_L4 _ _ _ _ = f_X0_costInAll_L4 _ _ _ _
    have h1 := sumN_nonneg (f := cs β s) (n := x) (fun i hi => (h.cs (by omega)).1)
    have h2 := sumN_le (f := cs β s) (n := x) (b := 42) (fun i hi => (h.cs (by omega)).2)
    have h3 := h.2.1.iff hx
    have h4 := h.cs hx
    have e4 : sumN (cs β s) (x + 1) = sumN (cs β s) x + cs β s x := rfl
    rw [e4, f_X0_costInAll_L4, if_neg (by omega), ld_t x rfl hx, bs]
    dsimp only [jp]
    generalize sumN (cs β s) x = S at h1 h2 ⊢
    by_cases e : pt s x 0 = 1
    · have e5 : cs β s x = cst β x := if_pos e
      rw [if_neg (fun z => (h3.mp z) e), x0_costOf h.2.2.2.1 hx e, bs]
      show (ck (S + cst β x)).bind _ = _
      rw [e5] at h4 ⊢
      rw [ck_t (by omega), bs, ck_t (by omega), bs]
      rfl
    · have e5 : cs β s x = 0 := if_neg e
      rw [if_pos (h3.mpr e), e5, ck_t (by omega), bs, Int.add_zero]
      rfl
  · show f_X0_costInAll_L4 _ _ _ _ = _
    rw [f_X0_costInAll_L4, if_pos (by omega)]
theorem Fz.rb {β σ σ' : Blk} (h : RBc (isr (σ 1)) β (σ 1)) (hz : Fz σ σ') : σ' 1 = σ 1 := hz.1 1 (by omega) (by omega)
theorem x5_cost {β σ : Blk} (h : RBc (isr (σ 1)) β (σ 1)) {r : Nat} (hr : r < 30) (hi : pt (σ 1) r 0 = 1) : ∃ σ', f_X5_costOf σ r = some (cst β r, σ') ∧ Fz σ σ' := by
  have hl := (h.2.2.2.2.1 r hr hi).2.2.2 hi
  exact x5_costOf h.2.2.1.1 h.2.2.2.1 hr hi hl.1 hl.2
theorem x5_sumOfCosts {β σ : Blk} (h : RBc (isr (σ 1)) β (σ 1)) : ∃ σ', f_X5_sumOfCosts σ = some (sumN (cs β (σ 1)) 30, σ') ∧ Fz σ σ' := by
  have key := loopSt (S := Int × Blk) (F := fun n (x : Nat) z => f_X5_sumOfCosts_L4 n z.1 (x : Int) z.2) (P := fun x z => z.1 = sumN (cs β (σ 1)) x ∧ Fz σ z.2) (Q := fun o => ∃ σ', o = some (sumN (cs β (σ 1)) 30, σ') ∧ Fz σ σ') 30 (fun n x z hx hp => ?_) (fun n z hp => ?_) fu 0 (0, σ) (by omega) (fu_lt (by omega)) ⟨rfl, Fz.rf⟩
  · exact key
  · obtain ⟨S, u⟩ := z
    obtain ⟨a1, a2⟩ := hp
    have a1' : S = sumN (cs β (σ 1)) x := a1
    have e1 : u 1 = σ 1 := a2.1 1 (by omega) (by omega)
    have h1 := sumN_nonneg (f := cs β (σ 1)) (n := x) (fun i hi => (h.cs (by omega)).1)
    have h2 := sumN_le (f := cs β (σ 1)) (n := x) (b := 42) (fun i hi => (h.cs (by omega)).2)
    have h4 := h.cs hx
    have e4 : sumN (cs β (σ 1)) (x + 1) = sumN (cs β (σ 1)) x + cs β (σ 1) x := rfl
    show ∃ s' : Int × Blk, f_X5_sumOfCosts_L4 (n + 1) S (x : Int) u = f_X5_sumOfCosts_L4 n s'.1 ((x + 1 : Nat) : Int) s'.2 ∧ s'.1 = sumN (cs β (σ 1)) (x + 1) ∧ Fz σ s'.2
    rw [e4, ← a1', f_X5_sumOfCosts_L4, if_neg (by omega), x5_part x 0 rfl (by omega) hx (by omega), bs, e1]
    rw [← a1'] at h1 h2
    dsimp only [jp]
    by_cases e : pt (σ 1) x 0 = 1
    · have e5 : cs β (σ 1) x = cst β x := if_pos e
      obtain ⟨v, v1, v2⟩ := x5_cost (β := β) (σ := u) (by rw [e1]; exact h) hx (by rw [e1]; exact e)
      rw [e5] at h4 ⊢
      rw [if_neg (by omega), v1, bd2_t, ck_t (by omega), bs, ck_t (by omega), bs]
      exact ⟨(S + cst β x, v), rfl, rfl, a2.tr v2⟩
    · have e5 : cs β (σ 1) x = 0 := if_neg e
      rw [if_pos e, e5, ck_t (by omega), bs, ck_t (by omega), bs]
      exact ⟨(S + 0, u), rfl, rfl, a2⟩
  · obtain ⟨S, u⟩ := z
    obtain ⟨a1, a2⟩ := hp
    have a1' : S = sumN (cs β (σ 1)) 30 := a1
    refine ⟨u, ?_, a2⟩
    show f_X5_sumOfCosts_L4 _ _ _ _ = _
    rw [f_X5_sumOfCosts_L4, if_pos (by omega)]
    show some (S, u) = _
    rw [a1']
theorem nm_t {α : Type} {a : Int} {K : Int → Option α} : nm a K = K a := rfl
/-- the greatest cost -/
def gm (f : Nat → Int) (P : Nat → Prop) [DecidablePred P] (a : Int) : Nat → Int
  | 0 => a
  | n + 1 => if P n then (if gm f P a n < f n then f n else gm f P a n) else gm f P a n
theorem gm_two {f : Nat → Int} {P : Nat → Prop} [DecidablePred P] : ∀ n, (∀ i, i < n → P i → 1 ≤ f i ∧ f i ≤ 42) → ((∀ i, i < n → ¬ P i) ∧ gm f P 0 n = 0 ∧ gm f P (-6) n = -6) ∨ ((∃ i, i < n ∧ P i) ∧ gm f P 0 n = gm f P (-6) n ∧ 1 ≤ gm f P 0 n ∧ gm f P 0 n ≤ 42)
  | 0, _ => Or.inl ⟨fun i hi => by omega, rfl, rfl⟩
  | n + 1, h => by
    have ih := gm_two n (fun i hi => h i (by omega))
    unfold gm
    by_cases e : P n
    · have h1 := h n (by omega) e
      right
      rw [if_pos e, if_pos e]
      refine ⟨⟨n, by omega, e⟩, ?_⟩
      rcases ih with ⟨a1, a2, a3⟩ | ⟨a1, a2, a3⟩
      · rw [a2, a3, if_pos (by omega), if_pos (by omega)]
        exact ⟨rfl, h1.1, h1.2⟩
      · rw [← a2]
        split <;> omega
    · rw [if_neg e, if_neg e]
      rcases ih with ⟨a1, a2, a3⟩ | ⟨⟨i, i1, i2⟩, a2, a3⟩
      · refine Or.inl ⟨fun i hi => ?_, a2, a3⟩
        by_cases e2 : i = n
        · rw [e2]; exact e
        · exact a1 i (by omega)
      · exact Or.inr ⟨⟨i, by omega, i2⟩, a2, a3⟩
theorem x0_greatest {β : Blk} {s : Nat → Int} (h : RBc (isr s) β s) : f_X0_greatestCost β = some (gm (cst β) (fun r => pt s r 0 = 1) 0 30) := by
  have key := loopUp (F := fun n (x : Nat) => f_X0_greatestCost_L4 β n (gm (cst β) (fun r => pt s r 0 = 1) 0 x) (x : Int)) (R := some (gm (cst β) (fun r => pt s r 0 = 1) 0 30)) 30 (fun n x hx => ?_) (fun n => ?_) fu 0 (by omega) (fu_lt (by omega))
  · exact key
  · show f_X0_greatestCost_L4 _ _ _ _ = f_X0_greatestCost_L4 _ _ _ _
    have h3 := h.2.1.iff hx
    have e4 : gm (cst β) (fun r => pt s r 0 = 1) 0 (x + 1) = if pt s x 0 = 1 then (if gm (cst β) (fun r => pt s r 0 = 1) 0 x < cst β x then cst β x else gm (cst β) (fun r => pt s r 0 = 1) 0 x) else gm (cst β) (fun r => pt s r 0 = 1) 0 x := rfl
    rw [e4, f_X0_greatestCost_L4, if_neg (by omega), ld_t x rfl hx, bs]
    dsimp only [jp]
    by_cases e : pt s x 0 = 1
    · rw [if_neg (fun z => (h3.mp z) e), x0_costOf h.2.2.2.1 hx e, bs, nm_t, ck_t (by omega), bs, if_pos e]
      rfl
    · rw [if_pos (h3.mpr e), ck_t (by omega), bs, if_neg e]
      rfl
  · show f_X0_greatestCost_L4 _ _ _ _ = _
    rw [f_X0_greatestCost_L4, if_pos (by omega)]
theorem x5_greatest {β σ : Blk} (h : RBc (isr (σ 1)) β (σ 1)) : ∃ σ', f_X5_greatestCost σ = some (gm (cst β) (fun r => pt (σ 1) r 0 = 1) (-6) 30, σ') ∧ Fz σ σ' := by
  have key := loopSt (S := Int × Blk) (F := fun n (x : Nat) z => f_X5_greatestCost_L5 n z.1 (x : Int) z.2) (P := fun x z => z.1 = gm (cst β) (fun r => pt (σ 1) r 0 = 1) (-6) x ∧ Fz σ z.2) (Q := fun o => ∃ σ', o = some (gm (cst β) (fun r => pt (σ 1) r 0 = 1) (-6) 30, σ') ∧ Fz σ σ') 30 (fun n x z hx hp => ?_) (fun n z hp => ?_) fu 0 ((-6), σ) (by omega) (fu_lt (by omega)) ⟨rfl, Fz.rf⟩
  · exact key
  · obtain ⟨S, u⟩ := z
    obtain ⟨a1, a2⟩ := hp
    have a1' : S = gm (cst β) (fun r => pt (σ 1) r 0 = 1) (-6) x := a1
    have e1 : u 1 = σ 1 := a2.1 1 (by omega) (by omega)
    have e4 : gm (cst β) (fun r => pt (σ 1) r 0 = 1) (-6) (x + 1) = if pt (σ 1) x 0 = 1 then (if gm (cst β) (fun r => pt (σ 1) r 0 = 1) (-6) x < cst β x then cst β x else gm (cst β) (fun r => pt (σ 1) r 0 = 1) (-6) x) else gm (cst β) (fun r => pt (σ 1) r 0 = 1) (-6) x := rfl
    show ∃ s' : Int × Blk, f_X5_greatestCost_L5 (n + 1) S (x : Int) u = f_X5_greatestCost_L5 n s'.1 ((x + 1 : Nat) : Int) s'.2 ∧ s'.1 = gm (cst β) (fun r => pt (σ 1) r 0 = 1) (-6) (x + 1) ∧ Fz σ s'.2
    rw [e4, ← a1', f_X5_greatestCost_L5, if_neg (by omega), x5_part x 0 rfl (by omega) hx (by omega), bs, e1]
    dsimp only [jp]
    by_cases e : pt (σ 1) x 0 = 1
    · obtain ⟨v, v1, v2⟩ := x5_cost (β := β) (σ := u) (by rw [e1]; exact h) hx (by rw [e1]; exact e)
      have e2 : v 1 = σ 1 := by rw [v2.1 1 (by omega) (by omega)]; exact e1
      obtain ⟨v', v3, v4⟩ := x5_cost (β := β) (σ := v) (by rw [e2]; exact h) hx (by rw [e2]; exact e)
      rw [if_neg (show ¬ pt (σ 1) x 0 ≠ 1 by omega), v1, bd2_t, if_pos e]
      by_cases e3 : cst β x ≤ S
      · rw [if_pos e3, ck_t (by omega), bs, if_neg (by omega)]
        exact ⟨(S, v), rfl, rfl, a2.tr v2⟩
      · rw [if_neg e3, v3, bd2_t, ck_t (by omega), bs, if_pos (by omega)]
        exact ⟨(cst β x, v'), rfl, rfl, (a2.tr v2).tr v4⟩
    · rw [if_pos e, ck_t (by omega), bs, if_neg e]
      exact ⟨(S, u), rfl, rfl, a2⟩
  · obtain ⟨S, u⟩ := z
    obtain ⟨a1, a2⟩ := hp
    have a1' : S = gm (cst β) (fun r => pt (σ 1) r 0 = 1) (-6) 30 := a1
    refine ⟨u, ?_, a2⟩
    show f_X5_greatestCost_L5 _ _ _ _ = _
    rw [f_X5_greatestCost_L5, if_pos (by omega)]
    show some (S, u) = _
    rw [a1']
theorem ln_rng {β : Blk} {s : Nat → Int} (h : RBc (isr s) β s) {r : Nat} (hr : r < 30) : 0 ≤ pt s r 2 ∧ pt s r 2 ≤ 40 := by
  by_cases e : pt s r 0 = 1
  · exact (h.2.2.2.2.1 r hr e).2.1
  · rw [h.2.2.2.2.2.1 r hr e]; decide
theorem x0_letters {β : Blk} {s : Nat → Int} (h : RBc (isr s) β s) : f_X0_lettersInAll β = some (sumN (fun r => pt s r 2) 30) := by
  have key := loopUp (F := fun n (x : Nat) => f_X0_lettersInAll_L4 β n (sumN (fun r => pt s r 2) x) (x : Int)) (R := some (sumN (fun r => pt s r 2) 30)) 30 (fun n x hx => ?_) (fun n => ?_) fu 0 (by omega) (fu_lt (by omega))
  · exact key
  · show f_X0_lettersInAll_L4 _ _ _ _ = f_X0_lettersInAll_L4 _ _ _ _
    have h1 := sumN_nonneg (f := fun r => pt s r 2) (n := x) (fun i hi => (ln_rng h (by omega)).1)
    have h2 := sumN_le (f := fun r => pt s r 2) (n := x) (b := 40) (fun i hi => (ln_rng h (by omega)).2)
    have h3 := h.2.1.iff hx
    have h4 := ln_rng h hx
    have e4 : sumN (fun r => pt s r 2) (x + 1) = sumN (fun r => pt s r 2) x + pt s x 2 := rfl
    rw [e4, f_X0_lettersInAll_L4, if_neg (by omega), ld_t x rfl hx, bs]
    dsimp only [jp]
    generalize sumN (fun r => pt s r 2) x = S at h1 h2 ⊢
    by_cases e : pt s x 0 = 1
    · rw [if_neg (fun z => (h3.mp z) e), ld_t x rfl hx, bs, (h.2.2.2.2.1 x hx e).1, ck_t (by omega), bs, ck_t (by omega), bs]
      rfl
    · rw [if_pos (h3.mpr e), h.2.2.2.2.2.1 x hx e, ck_t (by omega), bs, Int.add_zero]
      rfl
  · show f_X0_lettersInAll_L4 _ _ _ _ = _
    rw [f_X0_lettersInAll_L4, if_pos (by omega)]
theorem x5_allLetters {β σ : Blk} (h : RBc (isr (σ 1)) β (σ 1)) : f_X5_allLetters σ = some (sumN (fun r => pt (σ 1) r 2) 30) := by
  have key := loopUp (F := fun n (x : Nat) => f_X5_allLetters_L4 σ n (sumN (fun r => pt (σ 1) r 2) x) (x : Int)) (R := some (sumN (fun r => pt (σ 1) r 2) 30)) 30 (fun n x hx => ?_) (fun n => ?_) fu 0 (by omega) (fu_lt (by omega))
  · exact key
  · show f_X5_allLetters_L4 _ _ _ _ = f_X5_allLetters_L4 _ _ _ _
    have h1 := sumN_nonneg (f := fun r => pt (σ 1) r 2) (n := x) (fun i hi => (ln_rng h (by omega)).1)
    have h2 := sumN_le (f := fun r => pt (σ 1) r 2) (n := x) (b := 40) (fun i hi => (ln_rng h (by omega)).2)
    have h4 := ln_rng h hx
    rw [f_X5_allLetters_L4, if_neg (by omega), x5_part x 2 rfl (by omega) hx (by omega), bs, ck_t (by omega), bs, ck_t (by omega), bs]
    rfl
  · show f_X5_allLetters_L4 _ _ _ _ = _
    rw [f_X5_allLetters_L4, if_pos (by omega)]
