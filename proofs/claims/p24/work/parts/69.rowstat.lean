/-! PURE: what all rows answer -/
def cst (β : Blk) (r : Nat) : Int := costV (β 10 r) (β 9 r) (β (13 + r)) (β 11 r).toNat
theorem cst_rng {β : Blk} {s : Nat → Int} {w : Nat → Prop} (h : FI s w (β 10) (β 9) (β 11) (PP β) (fun _ => False)) {r : Nat} (hr : r < 30) (hw : w r) : 1 ≤ cst β r ∧ cst β r ≤ 42 := by
  have h1 := (h.own hr hw).2.2.2.2.1
  have h2 := cost_rng (β 10 r) (β (13 + r)) (β 11 r).toNat
  unfold cst costV
  split <;> omega
def cs (β : Blk) (s : Nat → Int) (r : Nat) : Int := if pt s r 0 = 1 then cst β r else 0
theorem RBc.cs {β : Blk} {s : Nat → Int} (h : RBc (isr s) β s) {r : Nat} (hr : r < 30) : 0 ≤ cs β s r ∧ cs β s r ≤ 42 := by
  show 0 ≤ (if pt s r 0 = 1 then cst β r else 0) ∧ (if pt s r 0 = 1 then cst β r else 0) ≤ 42
  split
  · rename_i hi
    have := cst_rng h.2.2.2.1 hr hi
    omega
  · omega
theorem RW.iff {β : Blk} {s : Nat → Int} (h : RW β s) {r : Nat} (hr : r < 30) : β 7 r = -1 ↔ pt s r 0 ≠ 1 := by
  rcases h.1 r hr with h1 | h1
  · constructor
    · intro; omega
    · intro z; exact absurd h1.1 z
  · constructor
    · intro; omega
    · intro; exact h1.2
theorem rk_nat {β : Blk} {k : Nat} (hk : k < 100) : rk β (k : Int) = β 6 k := by
  unfold rk
  rw [if_pos (show (0 : Int) ≤ (k : Int) ∧ (k : Int) < 100 by omega), Int.toNat_natCast]
/-- a key's row's value -/
def ks (β : Blk) (f : Nat → Int) (k : Nat) : Int := if β 6 k = -1 then 0 else f (β 6 k).toNat
theorem RW.ksum {β : Blk} {s : Nat → Int} (h : RW β s) (f : Nat → Int) : sumN (ks β f) 100 = sumN (fun r => if pt s r 0 = 1 then f r else 0) 30 := by
  have h1 : ∀ k, k < 100 → ks β f k = sumN (fun r => if β 6 k = (r : Int) then f r else 0) 30 := by
    intro k hk
    unfold ks
    rcases h.2.1 k hk with h2 | ⟨r, h2, h3, -⟩
    · rw [if_pos h2, sumN_congr (g := fun _ => 0) (fun i _ => if_neg (by omega)), sumN_const]
      simp
    · rw [if_neg (by omega)]
      exact (sumN_single (k := r) h2 (fun i _ => by
        by_cases e : i = r
        · rw [if_pos e, if_pos (by omega), e, h3, Int.toNat_natCast]
        · rw [if_neg e, if_neg (by omega)])).symm
  rw [sumN_congr h1, sumN_swap (f := fun k r => if β 6 k = (r : Int) then f r else 0)]
  refine sumN_congr (fun r hr => ?_)
  rcases h.1 r hr with h2 | h2
  · rw [if_pos h2.1]
    refine sumN_single (k := (pt s r 1).toNat) (by omega) (fun k hk => ?_)
    by_cases e : k = (pt s r 1).toNat
    · rw [if_pos e, e, if_pos h2.2.2.2.2]
    · rw [if_neg e, if_neg (fun z => ?_)]
      rcases h.2.1 k hk with h3 | ⟨x, h3, h4, h5, h6⟩
      · omega
      · have : x = r := by omega
        subst this
        omega
  · rw [if_neg (by omega), sumN_congr (g := fun _ => 0) (fun k hk => if_neg (fun z => ?_)), sumN_const]
    · simp
    · rcases h.2.1 k hk with h3 | ⟨x, h3, h4, h5, h6⟩
      · omega
      · have : x = r := by omega
        subst this
        omega
theorem ks_rng {β : Blk} {s : Nat → Int} (h : RW β s) {f : Nat → Int} {b : Int} (hb : 0 ≤ b) (hf : ∀ r, r < 30 → pt s r 0 = 1 → 0 ≤ f r ∧ f r ≤ b) {k : Nat} (hk : k < 100) : 0 ≤ ks β f k ∧ ks β f k ≤ b := by
  unfold ks
  rcases h.2.1 k hk with h2 | ⟨r, h2, h3, h4, -⟩
  · rw [if_pos h2]
    omega
  · rw [if_neg (by omega), h3, Int.toNat_natCast]
    exact hf r h2 h4
theorem x0_costInAll {β : Blk} {s : Nat → Int} (h : RBc (isr s) β s) : f_X0_costInAll β = some (sumN (cs β s) 30) := by
  have hR := h.2.1
  have hf : ∀ r, r < 30 → pt s r 0 = 1 → 0 ≤ cst β r ∧ cst β r ≤ 42 := fun r hr hi => by
    have := cst_rng h.2.2.2.1 hr hi
    omega
  have e0 : sumN (cs β s) 30 = sumN (ks β (cst β)) 100 := (hR.ksum (cst β)).symm
  rw [e0]
  have key := loopUp (F := fun n (x : Nat) => f_X0_costInAll_L4 β n (sumN (ks β (cst β)) x) (x : Int)) (R := some (sumN (ks β (cst β)) 100)) 100 (fun n x hx => ?_) (fun n => ?_) fu 0 (by omega) (fu_lt (by omega))
  · exact key
  · show f_X0_costInAll_L4 _ _ _ _ = f_X0_costInAll_L4 _ _ _ _
    have h1 := sumN_nonneg (f := ks β (cst β)) (n := x) (fun i hi => (ks_rng hR (by omega) hf (by omega)).1)
    have h2 := sumN_le (f := ks β (cst β)) (n := x) (b := 42) (fun i hi => (ks_rng hR (by omega) hf (by omega)).2)
    have e4 : sumN (ks β (cst β)) (x + 1) = sumN (ks β (cst β)) x + ks β (cst β) x := rfl
    rw [e4, f_X0_costInAll_L4, if_neg (by omega), x0_rowOf hR, bs, rk_nat hx]
    dsimp only [jp]
    generalize sumN (ks β (cst β)) x = S at h1 h2 ⊢
    unfold ks
    rcases hR.2.1 x hx with h6 | ⟨r, hr, h6, hi, -⟩
    · rw [if_pos h6, if_pos h6, ck_t (by omega), bs, Int.add_zero]
      rfl
    · have h4 := hf r hr hi
      have e6 : ¬ β 6 x = -1 := by omega
      rw [if_neg e6, if_neg e6, h6, Int.toNat_natCast, x0_costOf h.2.2.2.1 hr hi, bs]
      show (ck (S + cst β r)).bind _ = _
      rw [ck_t (by omega), bs, ck_t (by omega), bs]
      rfl
  · show f_X0_costInAll_L4 _ _ _ _ = _
    rw [f_X0_costInAll_L4, if_pos (by omega)]
theorem Fz.rb {β σ σ' : Blk} (h : RBc (isr (σ 1)) β (σ 1)) (hz : Fz σ σ') : σ' 1 = σ 1 := hz.1 1 (by omega) (by omega)
theorem x5_cost {β σ : Blk} (h : RBc (isr (σ 1)) β (σ 1)) {r : Nat} (hr : r < 30) (hi : pt (σ 1) r 0 = 1) : ∃ σ', f_X5_costOf σ r = some (cst β r, σ') ∧ Fz σ σ' := by
  have hl := (h.2.2.2.2.1 r hr hi).2.2.2 hi
  exact x5_costOf h.2.2.1.1 h.2.2.2.1 hr hi hl.1 hl.2
theorem x5_sumOfCosts {β σ : Blk} (h : RBc (isr (σ 1)) β (σ 1)) : ∃ σ', f_X5_sumOfCosts σ = some (sumN (cs β (σ 1)) 30, σ') ∧ Fz σ σ' := by
  have key := loopSt (S := Int × Blk) (F := fun n (x : Nat) z => f_X5_sumOfCosts_L4 n z.1 (x : Int) z.2) (P := fun x z => z.1 = sumN (cs β (σ 1)) x ∧ Fz σ z.2) (Q := fun o => ∃ σ', o = some (sumN (cs β (σ 1)) 30, σ') ∧ Fz σ σ') 30 (fun n x z hx hp => ?_) (fun n z hp => ?_) fu 0 (0, σ) (by omega) (fu_lt (by omega)) ⟨rfl, Fz.rf⟩
  · exact key
  · obtain ⟨S, u⟩ := z
    obtain ⟨a1, a2⟩ := hp
    have a1' : S = sumN (cs β (σ 1)) x := a1
    have e1 : u 1 = σ 1 := a2.1 1 (by omega) (by omega)
    have h1 := sumN_nonneg (f := cs β (σ 1)) (n := x) (fun i hi => (h.cs (by omega)).1)
    have h2 := sumN_le (f := cs β (σ 1)) (n := x) (b := 42) (fun i hi => (h.cs (by omega)).2)
    have h4 := h.cs hx
    have e4 : sumN (cs β (σ 1)) (x + 1) = sumN (cs β (σ 1)) x + cs β (σ 1) x := rfl
    show ∃ s' : Int × Blk, f_X5_sumOfCosts_L4 (n + 1) S (x : Int) u = f_X5_sumOfCosts_L4 n s'.1 ((x + 1 : Nat) : Int) s'.2 ∧ s'.1 = sumN (cs β (σ 1)) (x + 1) ∧ Fz σ s'.2
    rw [e4, ← a1', f_X5_sumOfCosts_L4, if_neg (by omega), x5_part x 0 rfl (by omega) hx (by omega), bs, e1]
    rw [← a1'] at h1 h2
    dsimp only [jp]
    by_cases e : pt (σ 1) x 0 = 1
    · have e5 : cs β (σ 1) x = cst β x := if_pos e
      obtain ⟨v, v1, v2⟩ := x5_cost (β := β) (σ := u) (by rw [e1]; exact h) hx (by rw [e1]; exact e)
      rw [e5] at h4 ⊢
      rw [if_neg (by omega), v1, bd2_t, ck_t (by omega), bs, ck_t (by omega), bs]
      exact ⟨(S + cst β x, v), rfl, rfl, a2.tr v2⟩
    · have e5 : cs β (σ 1) x = 0 := if_neg e
      rw [if_pos e, e5, ck_t (by omega), bs, ck_t (by omega), bs]
      exact ⟨(S + 0, u), rfl, rfl, a2⟩
  · obtain ⟨S, u⟩ := z
    obtain ⟨a1, a2⟩ := hp
    have a1' : S = sumN (cs β (σ 1)) 30 := a1
    refine ⟨u, ?_, a2⟩
    show f_X5_sumOfCosts_L4 _ _ _ _ = _
    rw [f_X5_sumOfCosts_L4, if_pos (by omega)]
    show some (S, u) = _
    rw [a1']
theorem nm_t {α : Type} {a : Int} {K : Int → Option α} : nm a K = K a := rfl
/-- the greatest cost -/
def gm (f : Nat → Int) (P : Nat → Prop) [DecidablePred P] (a : Int) : Nat → Int
  | 0 => a
  | n + 1 => if P n then (if gm f P a n < f n then f n else gm f P a n) else gm f P a n
theorem gm_two {f : Nat → Int} {P : Nat → Prop} [DecidablePred P] : ∀ n, (∀ i, i < n → P i → 1 ≤ f i ∧ f i ≤ 42) → ((∀ i, i < n → ¬ P i) ∧ gm f P 0 n = 0 ∧ gm f P (-6) n = -6) ∨ ((∃ i, i < n ∧ P i) ∧ gm f P 0 n = gm f P (-6) n ∧ 1 ≤ gm f P 0 n ∧ gm f P 0 n ≤ 42)
  | 0, _ => Or.inl ⟨fun i hi => by omega, rfl, rfl⟩
  | n + 1, h => by
    have ih := gm_two n (fun i hi => h i (by omega))
    unfold gm
    by_cases e : P n
    · have h1 := h n (by omega) e
      right
      rw [if_pos e, if_pos e]
      refine ⟨⟨n, by omega, e⟩, ?_⟩
      rcases ih with ⟨a1, a2, a3⟩ | ⟨a1, a2, a3⟩
      · rw [a2, a3, if_pos (by omega), if_pos (by omega)]
        exact ⟨rfl, h1.1, h1.2⟩
      · rw [← a2]
        split <;> omega
    · rw [if_neg e, if_neg e]
      rcases ih with ⟨a1, a2, a3⟩ | ⟨⟨i, i1, i2⟩, a2, a3⟩
      · refine Or.inl ⟨fun i hi => ?_, a2, a3⟩
        by_cases e2 : i = n
        · rw [e2]; exact e
        · exact a1 i (by omega)
      · exact Or.inr ⟨⟨i, by omega, i2⟩, a2, a3⟩
/-- what the greatest is -/
theorem gm_max {f : Nat → Int} {P : Nat → Prop} [DecidablePred P] : ∀ n, 0 ≤ gm f P 0 n ∧ (∀ i, i < n → P i → f i ≤ gm f P 0 n) ∧ (gm f P 0 n = 0 ∨ ∃ i, i < n ∧ P i ∧ gm f P 0 n = f i)
  | 0 => ⟨Int.le_refl 0, fun i hi => absurd hi (Nat.not_lt_zero i), Or.inl rfl⟩
  | n + 1 => by
    obtain ⟨h1, h2, h3⟩ := gm_max (f := f) (P := P) n
    unfold gm
    by_cases e : P n
    · rw [if_pos e]
      by_cases e2 : gm f P 0 n < f n
      · rw [if_pos e2]
        refine ⟨by omega, fun i hi hp => ?_, Or.inr ⟨n, by omega, e, rfl⟩⟩
        by_cases e3 : i = n
        · rw [e3]; exact Int.le_refl _
        · have := h2 i (by omega) hp; omega
      · rw [if_neg e2]
        refine ⟨h1, fun i hi hp => ?_, h3.imp id (fun ⟨i, a, b⟩ => ⟨i, by omega, b⟩)⟩
        by_cases e3 : i = n
        · rw [e3]; omega
        · exact h2 i (by omega) hp
    · rw [if_neg e]
      refine ⟨h1, fun i hi hp => ?_, h3.imp id (fun ⟨i, a, b⟩ => ⟨i, by omega, b⟩)⟩
      by_cases e3 : i = n
      · exact absurd (e3 ▸ hp) e
      · exact h2 i (by omega) hp
theorem RW.gmk {β : Blk} {s : Nat → Int} (h : RW β s) {f : Nat → Int} : gm (fun k => f (β 6 k).toNat) (fun k => β 6 k ≠ -1) 0 100 = gm f (fun r => pt s r 0 = 1) 0 30 := by
  obtain ⟨a1, a2, a3⟩ := gm_max (f := fun k => f (β 6 k).toNat) (P := fun k => β 6 k ≠ -1) 100
  obtain ⟨b1, b2, b3⟩ := gm_max (f := f) (P := fun r => pt s r 0 = 1) 30
  apply Int.le_antisymm
  · rcases a3 with a3 | ⟨k, hk, hp, a3⟩
    · omega
    · rcases h.2.1 k hk with h2 | ⟨r, h2, h3, h4, -⟩
      · exact absurd h2 hp
      · rw [a3]
        show f (β 6 k).toNat ≤ _
        rw [h3, Int.toNat_natCast]
        exact b2 r h2 h4
  · rcases b3 with b3 | ⟨r, hr, hp, b3⟩
    · omega
    · rcases h.1 r hr with h2 | h2
      · have h3 := a2 (pt s r 1).toNat (by omega) (by omega)
        have h4 : f (β 6 (pt s r 1).toNat).toNat ≤ gm (fun k => f (β 6 k).toNat) (fun k => β 6 k ≠ -1) 0 100 := h3
        rw [h2.2.2.2.2, Int.toNat_natCast] at h4
        omega
      · omega
theorem x0_greatest {β : Blk} {s : Nat → Int} (h : RBc (isr s) β s) : f_X0_greatestCost β = some (gm (cst β) (fun r => pt s r 0 = 1) 0 30) := by
  have hR := h.2.1
  rw [← hR.gmk]
  have key := loopUp (F := fun n (x : Nat) => f_X0_greatestCost_L4 β n (gm (fun k => cst β (β 6 k).toNat) (fun k => β 6 k ≠ -1) 0 x) (x : Int)) (R := some (gm (fun k => cst β (β 6 k).toNat) (fun k => β 6 k ≠ -1) 0 100)) 100 (fun n x hx => ?_) (fun n => ?_) fu 0 (by omega) (fu_lt (by omega))
  · exact key
  · show f_X0_greatestCost_L4 _ _ _ _ = f_X0_greatestCost_L4 _ _ _ _
    have e4 : gm (fun k => cst β (β 6 k).toNat) (fun k => β 6 k ≠ -1) 0 (x + 1) = if β 6 x ≠ -1 then (if gm (fun k => cst β (β 6 k).toNat) (fun k => β 6 k ≠ -1) 0 x < cst β (β 6 x).toNat then cst β (β 6 x).toNat else gm (fun k => cst β (β 6 k).toNat) (fun k => β 6 k ≠ -1) 0 x) else gm (fun k => cst β (β 6 k).toNat) (fun k => β 6 k ≠ -1) 0 x := rfl
    rw [e4, f_X0_greatestCost_L4, if_neg (by omega), x0_rowOf hR, bs, rk_nat hx]
    dsimp only [jp]
    generalize gm (fun k => cst β (β 6 k).toNat) (fun k => β 6 k ≠ -1) 0 x = S
    rcases hR.2.1 x hx with h6 | ⟨r, hr, h6, hi, -⟩
    · rw [if_pos h6, ck_t (by omega), bs, if_neg (by omega)]
      rfl
    · rw [if_neg (by omega), if_pos (by omega), h6, Int.toNat_natCast, x0_costOf h.2.2.2.1 hr hi, bs, nm_t, ck_t (by omega), bs]
      rfl
  · show f_X0_greatestCost_L4 _ _ _ _ = _
    rw [f_X0_greatestCost_L4, if_pos (by omega)]
theorem x5_greatest {β σ : Blk} (h : RBc (isr (σ 1)) β (σ 1)) : ∃ σ', f_X5_greatestCost σ = some (gm (cst β) (fun r => pt (σ 1) r 0 = 1) (-6) 30, σ') ∧ Fz σ σ' := by
  have key := loopSt (S := Int × Blk) (F := fun n (x : Nat) z => f_X5_greatestCost_L5 n z.1 (x : Int) z.2) (P := fun x z => z.1 = gm (cst β) (fun r => pt (σ 1) r 0 = 1) (-6) x ∧ Fz σ z.2) (Q := fun o => ∃ σ', o = some (gm (cst β) (fun r => pt (σ 1) r 0 = 1) (-6) 30, σ') ∧ Fz σ σ') 30 (fun n x z hx hp => ?_) (fun n z hp => ?_) fu 0 ((-6), σ) (by omega) (fu_lt (by omega)) ⟨rfl, Fz.rf⟩
  · exact key
  · obtain ⟨S, u⟩ := z
    obtain ⟨a1, a2⟩ := hp
    have a1' : S = gm (cst β) (fun r => pt (σ 1) r 0 = 1) (-6) x := a1
    have e1 : u 1 = σ 1 := a2.1 1 (by omega) (by omega)
    have e4 : gm (cst β) (fun r => pt (σ 1) r 0 = 1) (-6) (x + 1) = if pt (σ 1) x 0 = 1 then (if gm (cst β) (fun r => pt (σ 1) r 0 = 1) (-6) x < cst β x then cst β x else gm (cst β) (fun r => pt (σ 1) r 0 = 1) (-6) x) else gm (cst β) (fun r => pt (σ 1) r 0 = 1) (-6) x := rfl
    show ∃ s' : Int × Blk, f_X5_greatestCost_L5 (n + 1) S (x : Int) u = f_X5_greatestCost_L5 n s'.1 ((x + 1 : Nat) : Int) s'.2 ∧ s'.1 = gm (cst β) (fun r => pt (σ 1) r 0 = 1) (-6) (x + 1) ∧ Fz σ s'.2
    rw [e4, ← a1', f_X5_greatestCost_L5, if_neg (by omega), x5_part x 0 rfl (by omega) hx (by omega), bs, e1]
    dsimp only [jp]
    by_cases e : pt (σ 1) x 0 = 1
    · obtain ⟨v, v1, v2⟩ := x5_cost (β := β) (σ := u) (by rw [e1]; exact h) hx (by rw [e1]; exact e)
      have e2 : v 1 = σ 1 := by rw [v2.1 1 (by omega) (by omega)]; exact e1
      obtain ⟨v', v3, v4⟩ := x5_cost (β := β) (σ := v) (by rw [e2]; exact h) hx (by rw [e2]; exact e)
      rw [if_neg (show ¬ pt (σ 1) x 0 ≠ 1 by omega), v1, bd2_t, if_pos e]
      by_cases e3 : cst β x ≤ S
      · rw [if_pos e3, ck_t (by omega), bs, if_neg (by omega)]
        exact ⟨(S, v), rfl, rfl, a2.tr v2⟩
      · rw [if_neg e3, v3, bd2_t, ck_t (by omega), bs, if_pos (by omega)]
        exact ⟨(cst β x, v'), rfl, rfl, (a2.tr v2).tr v4⟩
    · rw [if_pos e, ck_t (by omega), bs, if_neg e]
      exact ⟨(S, u), rfl, rfl, a2⟩
  · obtain ⟨S, u⟩ := z
    obtain ⟨a1, a2⟩ := hp
    have a1' : S = gm (cst β) (fun r => pt (σ 1) r 0 = 1) (-6) 30 := a1
    refine ⟨u, ?_, a2⟩
    show f_X5_greatestCost_L5 _ _ _ _ = _
    rw [f_X5_greatestCost_L5, if_pos (by omega)]
    show some (S, u) = _
    rw [a1']
theorem ln_rng {β : Blk} {s : Nat → Int} (h : RBc (isr s) β s) {r : Nat} (hr : r < 30) : 0 ≤ pt s r 2 ∧ pt s r 2 ≤ 40 := by
  by_cases e : pt s r 0 = 1
  · exact (h.2.2.2.2.1 r hr e).2.1
  · rw [h.2.2.2.2.2.1 r hr e]; decide
theorem x0_letters {β : Blk} {s : Nat → Int} (h : RBc (isr s) β s) : f_X0_lettersInAll β = some (sumN (fun r => pt s r 2) 30) := by
  have hR := h.2.1
  have hf : ∀ r, r < 30 → pt s r 0 = 1 → 0 ≤ pt s r 2 ∧ pt s r 2 ≤ 40 := fun r hr _ => ln_rng h hr
  have e0 : sumN (fun r => pt s r 2) 30 = sumN (ks β (fun r => pt s r 2)) 100 := by
    rw [hR.ksum]
    refine sumN_congr (fun r hr => ?_)
    by_cases e : pt s r 0 = 1
    · rw [if_pos e]
    · rw [if_neg e]
      exact h.2.2.2.2.2.1 r hr e
  rw [e0]
  have key := loopUp (F := fun n (x : Nat) => f_X0_lettersInAll_L4 β n (sumN (ks β (fun r => pt s r 2)) x) (x : Int)) (R := some (sumN (ks β (fun r => pt s r 2)) 100)) 100 (fun n x hx => ?_) (fun n => ?_) fu 0 (by omega) (fu_lt (by omega))
  · exact key
  · show f_X0_lettersInAll_L4 _ _ _ _ = f_X0_lettersInAll_L4 _ _ _ _
    have h1 := sumN_nonneg (f := ks β (fun r => pt s r 2)) (n := x) (fun i hi => (ks_rng hR (by omega) hf (by omega)).1)
    have h2 := sumN_le (f := ks β (fun r => pt s r 2)) (n := x) (b := 40) (fun i hi => (ks_rng hR (by omega) hf (by omega)).2)
    have e4 : sumN (ks β (fun r => pt s r 2)) (x + 1) = sumN (ks β (fun r => pt s r 2)) x + ks β (fun r => pt s r 2) x := rfl
    rw [e4, f_X0_lettersInAll_L4, if_neg (by omega), x0_rowOf hR, bs, rk_nat hx]
    dsimp only [jp]
    generalize sumN (ks β (fun r => pt s r 2)) x = S at h1 h2 ⊢
    unfold ks
    rcases hR.2.1 x hx with h6 | ⟨r, hr, h6, hi, -⟩
    · rw [if_pos h6, if_pos h6, ck_t (by omega), bs, Int.add_zero]
      rfl
    · have h4 := hf r hr hi
      have e6 : ¬ β 6 x = -1 := by omega
      rw [if_neg e6, if_neg e6, h6, Int.toNat_natCast, ld_t r rfl hr, bs, (h.2.2.2.2.1 r hr hi).1]
      show (ck (S + pt s r 2)).bind _ = _
      rw [ck_t (by omega), bs, ck_t (by omega), bs]
      rfl
  · show f_X0_lettersInAll_L4 _ _ _ _ = _
    rw [f_X0_lettersInAll_L4, if_pos (by omega)]
theorem x5_allLetters {β σ : Blk} (h : RBc (isr (σ 1)) β (σ 1)) : f_X5_allLetters σ = some (sumN (fun r => pt (σ 1) r 2) 30) := by
  have key := loopUp (F := fun n (x : Nat) => f_X5_allLetters_L4 σ n (sumN (fun r => pt (σ 1) r 2) x) (x : Int)) (R := some (sumN (fun r => pt (σ 1) r 2) 30)) 30 (fun n x hx => ?_) (fun n => ?_) fu 0 (by omega) (fu_lt (by omega))
  · exact key
  · show f_X5_allLetters_L4 _ _ _ _ = f_X5_allLetters_L4 _ _ _ _
    have h1 := sumN_nonneg (f := fun r => pt (σ 1) r 2) (n := x) (fun i hi => (ln_rng h (by omega)).1)
    have h2 := sumN_le (f := fun r => pt (σ 1) r 2) (n := x) (b := 40) (fun i hi => (ln_rng h (by omega)).2)
    have h4 := ln_rng h hx
    rw [f_X5_allLetters_L4, if_neg (by omega), x5_part x 2 rfl (by omega) hx (by omega), bs, ck_t (by omega), bs, ck_t (by omega), bs]
    rfl
  · show f_X5_allLetters_L4 _ _ _ _ = _
    rw [f_X5_allLetters_L4, if_pos (by omega)]
