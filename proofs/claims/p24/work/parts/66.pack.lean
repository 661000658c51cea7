/-! PURE: packAll beside packs -/
/-- the told letters -/
def TL (τ : Blk) : Prop := ∀ k, k < 40 → 0 ≤ τ 8 k ∧ τ 8 k < 32
theorem TL.of {τ τ' : Blk} (h : τ' 8 = τ 8) : TL τ → TL τ' := fun z k hk => by rw [h]; exact z k hk
def Fy (τ τ' : Blk) : Prop := (∀ c, c = 2 ∨ (4 ≤ c ∧ c ≤ 7) → τ' c = τ c) ∧ τ' 0 4 = τ 0 4 ∧ τ' 0 8 = τ 0 8 ∧ (TL τ → TL τ')
theorem Fy.rf {τ : Blk} : Fy τ τ := ⟨fun _ _ => rfl, rfl, rfl, id⟩
theorem Fy.tr {τ τ' τ'' : Blk} (h : Fy τ τ') (h2 : Fy τ' τ'') : Fy τ τ'' := ⟨fun c hc => (h2.1 c hc).trans (h.1 c hc), h2.2.1.trans h.2.1, h2.2.2.1.trans h.2.2.1, fun z => h2.2.2.2 (h.2.2.2 z)⟩
theorem Fx.y {τ τ' : Blk} (h : Fx τ τ') : Fy τ τ' := ⟨fun c hc => h.1 c (by omega) (by omega) (by omega) (by omega), h.2 4 (by omega), h.2 8 (by omega), TL.of (h.1 8 (by omega) (by omega) (by omega) (by omega))⟩
def wk (s : Nat → Int) (x : Nat) : Nat → Prop := fun r => pt s r 0 = 1 ∧ pt s r 1 < x
def PK (x : Nat) (β : Blk) (s : Nat → Int) : Prop := RBc (wk s x) β s ∧ ∀ r, r < 30 → TXr β s r
/-- one row is packed -/
theorem pack_row {β τ : Blk} {x : Nat} {r : Nat} (hx : x < 100) (h : PK x β (τ 1)) (hr : r < 30) (h6 : β 6 x = r) (hi : pt (τ 1) r 0 = 1) (hk : pt (τ 1) r 1 = x) : ∃ u, f_X5_takeText τ r = some u ∧ u 1 = τ 1 ∧ Fy τ u ∧ ((∃ β' τ', f_X0_layNew β r = some (1, β') ∧ f_X5_writeNew u r = some (1, τ') ∧ PK (x + 1) β' (τ' 1) ∧ β' 6 = β 6 ∧ τ' 1 2 = τ 1 2 ∧ Fy τ τ') ∨ (∃ β' τ', f_X0_layNew β r = some (0, β') ∧ f_X5_writeNew u r = some (0, τ') ∧ Fy τ τ')) := by
  obtain ⟨⟨hS, hR, hP, hF, hL, hZ, hW⟩, hT⟩ := h
  have hl := hL r hr hi
  obtain ⟨u, u1, u2, u3, u4, u5, u6⟩ := x5_takeText hr hl.2.1 hl.2.2.1
  have e1 : u 1 = τ 1 := u2 1 (by omega) (by omega)
  have hfy : Fy τ u := ⟨fun c hc => u2 c (by omega) (by omega), u3 4 (by omega), u3 8 (by omega), fun z k hk => by
    by_cases e : (k : Int) < pt (τ 1) r 2
    · rw [u5 k e]
      unfold lt
      exact ⟨Int.emod_nonneg _ (by decide), Int.emod_lt_of_pos _ (by decide)⟩
    · rw [u6 k (by omega)]
      exact z k hk⟩
  refine ⟨u, u1, e1, hfy, ?_⟩
  have hnw : ¬ wk (τ 1) x r := fun z => by have := z.2; omega
  have hwi : ∀ y, y < 30 → (wk (τ 1) (x + 1) y ↔ (wk (τ 1) x y ∨ y = r)) := by
    intro y hy
    unfold wk
    constructor
    · intro ⟨h1, h2⟩
      have h3 := hR.of hy h1
      have h4 := hR.of hr hi
      by_cases e : pt (τ 1) y 1 = x
      · rw [e, ← hk, h4.1] at h3
        exact Or.inr (by omega)
      · exact Or.inl ⟨h1, by omega⟩
    · rintro (⟨h1, h2⟩ | rfl)
      · exact ⟨h1, by omega⟩
      · exact ⟨hi, by omega⟩
  rcases write_new (β := β) (τ := u) (w := wk (τ 1) x) hr hnw (by rw [e1]; exact hP) (by rw [e1]; exact hF) hl.1 u4 hl.2.1 (fun k hk2 => by
    rw [u5 k hk2]
    unfold lt
    exact ⟨Int.emod_nonneg _ (by decide), Int.emod_lt_of_pos _ (by decide)⟩) (by rw [e1]; exact hS.1) (by rw [e1]; exact hS.2.1) with ⟨β', τ', f1, f2, f3⟩ | ⟨β', τ', f1, f2, f3⟩
  · have hc := rbc_of_wok hr f3 (by rw [e1]; exact hS) (by rw [e1]; exact hR) (fun y hy hw => by
      rw [e1]
      rcases hw with hw | rfl
      · exact hw.1
      · exact hi) (by rw [u4]; exact hl.1) (by rw [u4]; exact hl.2.1) (fun y hy e hi2 => by
      rw [e1] at hi2 ⊢
      have h1 := hL y hy hi2
      exact ⟨h1.1, h1.2.1, h1.2.2.1, fun hw => h1.2.2.2 (hw.resolve_right e)⟩) (by rw [e1]; exact hZ) (by rw [e1]; exact hi)
    obtain ⟨a1, a2, a3, a4, a5, a6, -⟩ := f3
    have hp : ∀ y k, y < 30 → k < 12 → (y ≠ r ∨ k < 2) → pt (τ' 1) y k = pt (τ 1) y k := fun y k hy hk h => by
      rw [← e1]
      exact a5 _ (by omega) (by unfold UT; omega) (by omega) (by omega)
    have hp2 : pt (τ' 1) r 2 = pt (τ 1) r 2 := by rw [a6.1, u4]
    refine Or.inl ⟨β', τ', f1, f2, ⟨hc.congrW (fun y hy => ?_), fun y hy hi2 k hk2 => ?_⟩, a1 6 (by omega), ?_, hfy.tr a3.y⟩
    · rw [← hwi y hy]
      unfold wk
      rw [hp y 0 hy (by omega) (by omega), hp y 1 hy (by omega) (by omega)]
    · rw [a1 (44 + y) (by omega)]
      rw [hp y 0 hy (by omega) (by omega)] at hi2
      by_cases e : y = r
      · subst e
        rw [hp2] at hk2
        rw [a6.2.2 k (by rw [u4]; exact hk2), u5 k hk2]
        exact hT y hy hi2 k hk2
      · rw [hp y 2 hy (by omega) (Or.inl e)] at hk2
        have h1 := (hL y hy hi2).2.1
        rw [lt_c (s := τ 1) (fun m hm => hp y _ hy (by omega) (Or.inl e)) (by omega)]
        exact hT y hy hi2 k hk2
    · rw [a5 2 (by omega) (by unfold UT; omega) (by omega) (by omega), e1]
  · exact Or.inr ⟨β', τ', f1, f2, hfy.tr f3.1.y⟩
theorem packs_fail {τ : Blk} {m : Nat} {i : Int} (h : τ 1 2 = τ 1 2) : f_X5_packs_L30 (m + 1) 0 i τ = some (0, τ) := by
  rw [f_X5_packs_L30, ld_t 2 (by omega) (by omega), bs]
  split
  · rw [ckB_t (by omega), bs]
  · rw [if_pos rfl, ckB_t (by omega), bs]
theorem pack_loop : ∀ (d n m x : Nat) (β τ : Blk), x + d = 100 → d < n → d < m → PK x β (τ 1) → (∃ β' τ', f_X0_packAll_L9 n (x : Int) β = some (1, β') ∧ f_X5_packs_L30 m 1 (kc β x) τ = some (1, τ') ∧ RB β' (τ' 1) ∧ Fy τ τ') ∨ (∃ β' τ', f_X0_packAll_L9 n (x : Int) β = some (0, β') ∧ f_X5_packs_L30 m 1 (kc β x) τ = some (0, τ') ∧ Fy τ τ') := by
  intro d
  induction d with
  | zero =>
    intro n m x β τ hx hn hm h
    have e : x = 100 := by omega
    subst e
    obtain ⟨n, rfl⟩ : ∃ n', n = n' + 1 := ⟨n - 1, by omega⟩
    obtain ⟨m, rfl⟩ : ∃ m', m = m' + 1 := ⟨m - 1, by omega⟩
    have hR := h.1.2.1
    rw [f_X0_packAll_L9, f_X5_packs_L30, if_pos (by omega), ld_t 2 (by omega) (by omega), bs, hR.total, if_pos (Int.le_refl _), ckB_t (by omega), bs]
    refine Or.inl ⟨_, _, rfl, rfl, ⟨h.1.congrW (fun y hy => ?_), h.2⟩, Fy.rf⟩
    unfold isr wk
    exact ⟨fun z => ⟨z, by have := hR.of hy z; omega⟩, fun z => z.1⟩
  | succ d ih =>
    intro n m x β τ hx hn hm h
    obtain ⟨n, rfl⟩ : ∃ n', n = n' + 1 := ⟨n - 1, by omega⟩
    have hR := h.1.2.1
    rw [f_X0_packAll_L9, if_neg (by omega), ld_t x rfl (by omega), bs]
    dsimp only [jp]
    have hks := kc_s β x
    rcases hR.2.1 x (by omega) with h6 | ⟨r, hr, h6, hi, hk⟩
    · rw [if_pos h6] at hks
      rw [if_pos h6, ck_t (by omega), bs]
      have h1 := ih n m (x + 1) β τ (by omega) (by omega) (by omega) ⟨h.1.congrW (fun y hy => by
        unfold wk
        refine ⟨fun z => ⟨z.1, ?_⟩, fun z => ⟨z.1, by have := z.2; omega⟩⟩
        have h3 := hR.of hy z.1
        by_cases e : pt (τ 1) y 1 = x
        · rw [e] at h3
          have h4 := h3.1
          unfold rk at h4
          rw [if_pos (show (0 : Int) ≤ (x : Int) ∧ (x : Int) < 100 by omega), Int.toNat_natCast] at h4
          omega
        · have := z.2; omega), h.2⟩
      rw [hks, Int.add_zero] at h1
      exact h1
    · obtain ⟨m, rfl⟩ : ∃ m', m = m' + 1 := ⟨m - 1, by omega⟩
      rw [if_neg (show ¬ β 6 x = -1 by omega)] at hks
      have hlt : kc β x < τ 1 2 := by
        rw [← hR.total]
        have := kc_mono β (show x + 1 ≤ 100 by omega)
        omega
      have hkr := kc_rng β x
      obtain ⟨u, u1, u2, u3, hcase⟩ := pack_row (by omega) h hr h6 hi hk
      have hrow := hR.row (σ := τ) (k := x) (by omega)
      rw [if_neg (show ¬ β 6 x = -1 by omega), h6] at hrow
      rw [if_neg (by omega), h6, bs, f_X5_packs_L30, ld_t 2 (by omega) (by omega), bs, if_neg (show ¬ τ 1 2 ≤ kc β x by omega), if_neg (show ¬ ((1 : Int) = 0) by decide), x5_keyAt hR (by omega) (by omega) rfl, bs, hrow, bs, u1, bs]
      rcases hcase with ⟨β', τ', f1, f2, f3, f4, f5, f6⟩ | ⟨β', τ', f1, f2, f3⟩
      · rw [f1, f2, bd2_t, bd2_t, if_pos (show (1 : Int) ≠ 0 by decide), ck_t (by omega), bs, ck_t (by omega), bs]
        have e6 : kc β' (x + 1) = kc β x + 1 := by rw [← hks]; unfold kc; rw [f4]
        have h1 := ih n m (x + 1) β' τ' (by omega) (by omega) (by omega) f3
        rw [e6] at h1
        rcases h1 with ⟨β2, τ2, g1, g2, g3, g4⟩ | ⟨β2, τ2, g1, g2, g3⟩
        · exact Or.inl ⟨β2, τ2, g1, g2, g3, f6.tr g4⟩
        · exact Or.inr ⟨β2, τ2, g1, g2, f6.tr g3⟩
      · obtain ⟨m, rfl⟩ : ∃ m', m = m' + 1 := ⟨m - 1, by omega⟩
        rw [f1, f2, bd2_t, bd2_t, if_neg (show ¬ ((0 : Int) ≠ 0) by decide), ck_t (by omega), bs, packs_fail rfl]
        exact Or.inr ⟨_, _, rfl, rfl, f3⟩
theorem x3_clear {β : Blk} : ∃ β', f_X3_clear β = some β' ∧ (∀ c, c ≠ 2 → c ≠ 4 → c ≠ 5 → β' c = β c) ∧ (∀ q, q < 400 → β' 2 q = 0 ∧ β' 4 q = 0) ∧ ∀ p, p < 10 → β' 5 p = 40 := by
  obtain ⟨a, a1, a2, a3⟩ := j_fill (σ := β) (i := 2) (n := 400) (v := 0) (by omega)
  obtain ⟨b, b1, b2, b3⟩ := j_fill (σ := a) (i := 4) (n := 400) (v := 0) (by omega)
  obtain ⟨c, c1, c2, c3⟩ := j_fill (σ := b) (i := 5) (n := 10) (v := 40) (by omega)
  refine ⟨c, ?_, fun z h1 h2 h3 => by rw [c2 z h3, b2 z h2, a2 z h1], fun q hq => ⟨by rw [c2 2 (by omega), b2 2 (by omega)]; exact a3 q hq, by rw [c2 4 (by omega)]; exact b3 q hq⟩, c3⟩
  unfold f_X3_clear
  rw [a1, bs, b1, bs, c1, bs]
theorem x5_clear {τ : Blk} {j : Blk → Option (Int × Blk)} : ∃ u, f_X5_packs_L2 j fu 0 τ = j u ∧ (∀ c, c ≠ 1 → u c = τ c) ∧ (∀ i, i < 363 → u 1 i = τ 1 i) ∧ ∀ q, q < 400 → u 1 (363 + q) = 0 := by
  have key := loopSt (F := fun n (x : Nat) (s : Blk) => f_X5_packs_L2 j n (x : Int) s) (P := fun x s => (∀ c, c ≠ 1 → s c = τ c) ∧ (∀ i, i < 363 → s 1 i = τ 1 i) ∧ ∀ q, q < x → s 1 (363 + q) = 0) (Q := fun o => ∃ u, o = j u ∧ (∀ c, c ≠ 1 → u c = τ c) ∧ (∀ i, i < 363 → u 1 i = τ 1 i) ∧ ∀ q, q < 400 → u 1 (363 + q) = 0) 400 (fun n x s hx hp => ?_) (fun n s hp => ?_) fu 0 τ (by omega) (fu_lt (by omega)) ⟨fun _ _ => rfl, fun _ _ => rfl, fun q hq => by omega⟩
  · exact key
  · obtain ⟨a1, a2, a3⟩ := hp
    show ∃ s', f_X5_packs_L2 j (n + 1) (x : Int) s = f_X5_packs_L2 j n ((x + 1 : Nat) : Int) s' ∧ _
    rw [f_X5_packs_L2, if_neg (by omega), sw_t (363 + x) (by omega) (by omega), bs, ck_t (by omega), bs]
    refine ⟨_, rfl, fun c hc => by rw [up2_ne hc]; exact a1 c hc, fun i hi => by rw [up2_n (by omega)]; exact a2 i hi, fun q hq => ?_⟩
    by_cases e : q = x
    · rw [e, up2_s]
    · rw [up2_n (by omega)]
      exact a3 q (by omega)
  · obtain ⟨a1, a2, a3⟩ := hp
    refine ⟨s, ?_, a1, a2, a3⟩
    show f_X5_packs_L2 _ _ _ _ = _
    rw [f_X5_packs_L2, if_pos (by omega)]
theorem pack_all {β τ : Blk} (h : RB β (τ 1)) : (∃ β' τ', f_X0_packAll β = some (1, β') ∧ f_X5_packs τ = some (1, τ') ∧ RB β' (τ' 1) ∧ Fy τ τ') ∨ (∃ β' τ', f_X0_packAll β = some (0, β') ∧ f_X5_packs τ = some (0, τ') ∧ Fy τ τ') := by
  obtain ⟨⟨hS, hR, hP, hF, hL, hZ, hW⟩, hT⟩ := h
  obtain ⟨b, b1, b2, b3, b4⟩ := x3_clear (β := β)
  obtain ⟨u, u1, u2, u3, u4⟩ := x5_clear (τ := τ) (j := fun σ2 => f_X5_packs_L30 fu 1 0 σ2)
  have hp : ∀ y k, y < 30 → k < 12 → pt (u 1) y k = pt (τ 1) y k := fun y k hy hk => u3 _ (by omega)
  have hpk : PK 0 b (u 1) := by
    refine ⟨⟨?_, ?_, ⟨?_, ?_, ?_⟩, ⟨?_, ?_⟩, ?_, ?_, ?_⟩, ?_⟩
    · refine ⟨?_, ?_, ?_⟩
      · rw [b2 0 (by omega) (by omega) (by omega), u3 0 (by omega)]; exact hS.1
      · rw [b2 0 (by omega) (by omega) (by omega), u3 1 (by omega)]; exact hS.2.1
      · rw [b2 0 (by omega) (by omega) (by omega), u3 2 (by omega)]; exact hS.2.2
    · exact hR.congr (fun k hk => by rw [b2 6 (by omega) (by omega) (by omega)]) (fun y hy => by rw [b2 7 (by omega) (by omega) (by omega)]) (u3 2 (by omega)) (fun y hy => ⟨hp y 0 hy (by omega), hp y 1 hy (by omega)⟩)
    · intro q hq
      exact Or.inl (u4 q hq)
    · intro q hq
      rw [u4 q hq, (b3 q hq).1, (b3 q hq).2]
      exact ⟨rfl, rfl, fun z => absurd rfl z⟩
    · intro p hp2
      have e : fr (u 1) p = 40 := by
        unfold fr
        rw [sumN_congr (g := fun _ => 0) (fun i hi => by
          show cl (u 1 (363 + (40 * p + i))) = 0
          rw [u4 _ (by omega)]
          rfl), sumN_const]
        omega
      rw [b4 p hp2, e]
      exact ⟨rfl, by decide⟩
    · intro y hy hw
      exfalso
      obtain ⟨h1, h2⟩ := hw
      rw [hp y 0 hy (by omega)] at h1
      rw [hp y 1 hy (by omega)] at h2
      have := hR.of hy h1
      omega
    · intro q hq h0
      exact absurd (u4 q hq) h0
    · intro y hy hi
      rw [hp y 0 hy (by omega)] at hi
      have h1 := hL y hy hi
      rw [hp y 2 hy (by omega), b2 8 (by omega) (by omega) (by omega)]
      refine ⟨h1.1, h1.2.1, h1.2.2.1.congr (fun k hk => hp y k hy hk), fun hw => ?_⟩
      exfalso
      have h2 := hw.2
      rw [hp y 1 hy (by omega)] at h2
      have := hR.of hy hi
      omega
    · intro y hy hi
      rw [hp y 0 hy (by omega)] at hi
      rw [hp y 2 hy (by omega)]
      exact hZ y hy hi
    · intro y hy hw
      exact hw.1
    · intro y hy hi k hk
      rw [hp y 0 hy (by omega)] at hi
      rw [hp y 2 hy (by omega)] at hk
      have h1 := (hL y hy hi).2.1
      rw [b2 (44 + y) (by omega) (by omega) (by omega), lt_c (fun m hm => hp y _ hy (by omega)) (by omega)]
      exact hT y hy hi k hk
  have hfy : Fy τ u := ⟨fun c hc => u2 c (by omega), by rw [u2 0 (by omega)], by rw [u2 0 (by omega)], TL.of (u2 8 (by omega))⟩
  unfold f_X0_packAll f_X5_packs
  rw [b1, bs]
  dsimp only [jp]
  rw [u1]
  have hl := pack_loop 100 fu fu 0 b u (by omega) (fu_lt (by omega)) (fu_lt (by omega)) hpk
  have e : kc b 0 = 0 := rfl
  rw [e] at hl
  rcases hl with ⟨β2, τ2, g1, g2, g3, g4⟩ | ⟨β2, τ2, g1, g2, g3⟩
  · exact Or.inl ⟨β2, τ2, g1, g2, g3, hfy.tr g4⟩
  · exact Or.inr ⟨β2, τ2, g1, g2, hfy.tr g3⟩
