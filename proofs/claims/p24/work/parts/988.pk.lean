/-! PURE: the law's pack beside the reference's packs *)  -/
section PKL
variable {q t ir : Nat} {β : Blk} {s0 : Nat → Int}
/-- what a pack begins with -/
def PC (β : Blk) (s0 : Nat → Int) : Prop := RW β s0 ∧ (∀ y, y < 30 → pt s0 y 0 = 1 → y < 6 ∧ (0 ≤ pt s0 y 2 ∧ pt s0 y 2 ≤ 24)) ∧ (0 ≤ s0 0 ∧ s0 0 ≤ 16) ∧ (4 ≤ s0 1 ∧ s0 1 ≤ 12)
def PKL (q t ir : Nat) (s0 : Nat → Int) (x n : Nat) (T τ : Blk) : Prop := TT T q t (τ 1) n ∧ TK (τ 1) ∧ (∀ y, y < 6 → (pt s0 y 0 = 1 ∧ T ir (4 * y) = pt s0 y 1 ∧ T ir (4 * y + 1) = pt s0 y 2 ∧ (pt s0 y 1 < x → T ir (4 * y + 2) = pt (τ 1) y 3 ∧ T ir (4 * y + 3) = pt (τ 1) y 4)) ∨ (pt s0 y 0 = 0 ∧ T ir (4 * y + 1) = -1)) ∧ (T q 0 = s0 0 ∧ T q 1 = s0 1 ∧ T q 2 = s0 2) ∧ (∀ y, Wg cl (τ 1) y ≤ 33 ∧ Wg one (τ 1) y ≤ 8) ∧ (∀ y, ¬ (y < 6 ∧ pt s0 y 0 = 1 ∧ pt s0 y 1 < x) → Wg cl (τ 1) y = 0 ∧ Wg one (τ 1) y = 0) ∧ (∀ j, j < 3 → τ 1 j = s0 j) ∧ (∀ y k, y < 30 → k < 3 → pt (τ 1) y k = pt s0 y k) ∧ ∀ y, y < 30 → pt s0 y 0 = 1 → LTR (τ 1) y ∧ ∀ k : Nat, (k : Int) < pt s0 y 2 → lt (τ 1) y k = lt s0 y k
/-- law's homes and places laid into the reference's rows -/
def su (T : Blk) (ir : Nat) (s : Nat → Int) : Nat → Int := fun j => if 3 ≤ j ∧ (j - 3) % 12 = 3 then T ir (4 * ((j - 3) / 12) + 2) else if 3 ≤ j ∧ (j - 3) % 12 = 4 then T ir (4 * ((j - 3) / 12) + 3) else s j
theorem su_lo {T : Blk} {s : Nat → Int} {y k : Nat} (hk : k < 3) : pt (su T ir s) y k = pt s y k := by
  unfold pt su
  rw [if_neg (by omega), if_neg (by omega)]
theorem su_3 {T : Blk} {s : Nat → Int} {y : Nat} : pt (su T ir s) y 3 = T ir (4 * y + 2) := by
  unfold pt su
  rw [if_pos (by omega), show (3 + (12 * y + 3) - 3) / 12 = y by omega]
theorem su_4 {T : Blk} {s : Nat → Int} {y : Nat} : pt (su T ir s) y 4 = T ir (4 * y + 3) := by
  unfold pt su
  rw [if_neg (by omega), if_pos (by omega), show (3 + (12 * y + 4) - 3) / 12 = y by omega]
theorem PKL.rowOf {x n : Nat} {T τ : Blk} (hC : PC β s0) (h : PKL q t ir s0 x n T τ) (a : Int) : g_L_rowOf T a ir 28 = some (rk β a) := by
  refine l_rowOf (s := su T ir s0) ⟨fun y hy => ?_, fun y h1 h2 => ?_⟩ (hC.1.congr (fun _ _ => rfl) (fun _ _ => rfl) ?_ (fun y hy => ⟨su_lo (by omega), su_lo (by omega)⟩)) a
  · rw [su_lo (by omega), su_lo (by omega), su_lo (by omega), su_3, su_4]
    rcases h.2.2.1 y hy with ⟨a1, a2, a3, -⟩ | z
    · exact Or.inl ⟨a1, a2, a3, (hC.2.1 y (by omega) a1).2, rfl, rfl⟩
    · exact Or.inr z
  · rw [su_lo (by omega)]
    have h3 := hC.1.is h2
    have h4 := hC.2.1 y h2
    omega
  · unfold su
    rw [if_neg (by omega), if_neg (by omega)]
theorem PKL.us {x n : Nat} {T τ : Blk} (h : PKL q t ir s0 x n T τ) : Us (τ 1) ≤ 198 ∧ n ≤ 48 := by
  obtain ⟨h1, -, -, -, h5, h6, -⟩ := h
  have hz : ∀ y, 6 ≤ y → Wg cl (τ 1) y = 0 ∧ Wg one (τ 1) y = 0 := fun y hy => h6 y (fun z => by omega)
  refine ⟨?_, ?_⟩
  · rw [Us_tot, sumN_cut (m := 6) (by omega) (fun i h1 h2 => (hz i h1).1)]
    have := sumN_le (f := Wg cl (τ 1)) (n := 6) (b := 33) (fun i hi => (h5 i).1)
    omega
  · have e1 : (n : Int) = sumN (Wg one (τ 1)) 6 := h1.cnt.trans (sumN_cut (m := 6) (by omega) (fun i h1 h2 => (hz i h1).2))
    have := sumN_le (f := Wg one (τ 1)) (n := 6) (b := 8) (fun i hi => (h5 i).2)
    omega
theorem lp_step {x n r : Nat} {T τ : Blk} (hqt : q ≠ t) (hqi : q ≠ ir) (hit : ir ≠ t) (hC : PC β s0) (h : PKL q t ir s0 x n T τ) (hr : r < 30) (hi : pt s0 r 0 = 1) (hk : pt s0 r 1 = x) : ∃ u n' T' τ', f_X5_takeText τ r = some u ∧ f_X5_writeNew u r = some (1, τ') ∧ g_L_write T r (pt s0 r 2) 1 q 4 ir 28 t 64 = some (1, T') ∧ PKL q t ir s0 (x + 1) n' T' τ' ∧ (∀ c, c ≠ q → c ≠ t → c ≠ ir → T' c = T c) ∧ (∀ c, c ≠ 0 → c ≠ 1 → c ≠ 8 → c ≠ 9 → τ' c = τ c) ∧ ∀ j, j ≠ 10 → j ≠ 12 → τ' 0 j = τ 0 j := by
  obtain ⟨us1, us2⟩ := h.us
  obtain ⟨h1, h2, h3, ⟨c0, c1, c2⟩, h5, h6, h7, h8, h9⟩ := id h
  obtain ⟨hRW, hlv, hS0, hS1⟩ := hC
  obtain ⟨r6, hlen⟩ := hlv r hr hi
  obtain ⟨hltr, hlt⟩ := h9 r hr hi
  have e2 := h8 r 2 hr (by omega)
  obtain ⟨u, u1, u2, u3, u4, u5, u6⟩ := x5_takeText (σ := τ) hr (by rw [e2]; omega) hltr
  rw [e2] at u4 u5
  have eu : u 1 = τ 1 := u2 1 (by omega) (by omega)
  have hwz := h6 r (fun z => by omega)
  obtain ⟨T', τ', f1, f2, f3⟩ := lw_new (q := q) (t := t) (ir := ir) (r := r) (n := n) (rem := 6) (len := pt s0 r 2) (T := T) (τ := u) hqt hqi hit (by omega) (by rw [eu]; exact h1) (by rw [eu]; exact h2) u4 ⟨hlen.1, by omega⟩ (fun k hk2 => by
    rw [u5 k hk2]
    unfold lt
    exact ⟨Int.emod_nonneg _ (by decide), Int.emod_lt_of_pos _ (by decide)⟩) (by rw [eu, h7 0 (by omega)]; exact ⟨c0, hS0⟩) (by rw [eu, h7 1 (by omega)]; exact ⟨c1, hS1⟩) (by omega) (by omega) (by rw [eu]; omega) (by rw [eu]; exact hwz)
  obtain ⟨⟨n', w1, w2⟩, w3, w4, ⟨w5, w6, w7⟩, w8, w9, ⟨w10, w11, w12, w13⟩, w14, w15, w16⟩ := f3
  have hp : ∀ y k, y < 30 → k < 12 → (y ≠ r ∨ k < 2) → pt (τ' 1) y k = pt (τ 1) y k := fun y k hy hk hne => by rw [w4.pts hy hk hr hne, eu]
  have huniq : ∀ y, y < 30 → pt s0 y 0 = 1 → pt s0 y 1 = x → y = r := fun y hy hyi hyk => by
    have a1 := hRW.of hy hyi
    have a2 := hRW.of hr hi
    rw [hyk, ← hk, a2.1] at a1
    omega
  refine ⟨u, n', T', τ', u1, f1, f2, ⟨w1, w3, fun y hy => ?_, ?_, fun y => ?_, fun y hy => ?_, fun j hj => ?_, fun y k hy hk2 => ?_, fun y hy hyi => ?_⟩, w8, fun c d0 d1 d8 d9 => ?_, fun j j1 j2 => ?_⟩
  · by_cases e : y = r
    · subst e
      rcases h3 y hy with ⟨a1, a2, a3, a4⟩ | ⟨z, -⟩
      · exact Or.inl ⟨hi, by rw [w13 (4 * y) (by omega) (by omega) (by omega)]; exact a2, w10, fun _ => ⟨w11, w12⟩⟩
      · omega
    · rw [w13 (4 * y) (by omega) (by omega) (by omega), w13 (4 * y + 1) (by omega) (by omega) (by omega), w13 (4 * y + 2) (by omega) (by omega) (by omega), w13 (4 * y + 3) (by omega) (by omega) (by omega), hp y 3 (by omega) (by omega) (Or.inl e), hp y 4 (by omega) (by omega) (Or.inl e)]
      rcases h3 y hy with ⟨a1, a2, a3, a4⟩ | z
      · refine Or.inl ⟨a1, a2, a3, fun hlt2 => a4 ?_⟩
        have : pt s0 y 1 ≠ x := fun w => e (huniq y (by omega) a1 w)
        omega
      · exact Or.inr z
  · rw [w9 0 (by omega), w9 1 (by omega), w9 2 (by omega)]
    exact ⟨c0, c1, c2⟩
  · by_cases e : y = r
    · subst e
      omega
    · rw [(w14 y e).1, (w14 y e).2, eu]
      exact h5 y
  · by_cases e : y = r
    · subst e
      exact absurd ⟨r6, hi, by omega⟩ hy
    · rw [(w14 y e).1, (w14 y e).2, eu]
      exact h6 y (fun z => hy ⟨z.1, z.2.1, by omega⟩)
  · rw [w4.2.2 j (by omega) (by unfold UT; omega) (by omega) (by omega), eu]
    exact h7 j hj
  · by_cases e : y = r ∧ k = 2
    · obtain ⟨z1, z2⟩ := e
      rw [z1, z2]
      exact w5
    · rw [hp y k hy (by omega) (by omega)]
      exact h8 y k hy hk2
  · by_cases e : y = r
    · subst e
      exact ⟨w6, fun k hk2 => by rw [w7 k hk2, u5 k hk2]; exact hlt k hk2⟩
    · obtain ⟨b1, b2⟩ := h9 y hy hyi
      refine ⟨b1.congr (fun k hk2 => hp y k hy hk2 (Or.inl e)), fun k hk2 => ?_⟩
      have := (hlv y hy hyi).2
      rw [lt_c (s := τ 1) (fun m hm => hp y _ hy (by omega) (Or.inl e)) (by omega)]
      exact b2 k hk2
  · rw [w4.1 c d1 d9 d0, u2 c d0 d8]
  · rw [w4.2.1 j j2, u3 j j1]
theorem lp_loop (hqt : q ≠ t) (hqi : q ≠ ir) (hit : ir ≠ t) (hC : PC β s0) : ∀ (d x m m2 n : Nat) (T τ : Blk), x + d = 100 → d < m → d < m2 → PKL q t ir s0 x n T τ → ∃ n' T' τ', g_L_pack_L6 q 4 ir 28 t 64 m (x : Int) T = some (1, T') ∧ f_X5_packs_L30 m2 1 (kc β x) τ = some (1, τ') ∧ PKL q t ir s0 100 n' T' τ' ∧ (∀ c, c ≠ q → c ≠ t → c ≠ ir → T' c = T c) ∧ (∀ c, c ≠ 0 → c ≠ 1 → c ≠ 8 → c ≠ 9 → τ' c = τ c) ∧ ∀ j, j ≠ 10 → j ≠ 12 → τ' 0 j = τ 0 j := by
  intro d
  induction d with
  | zero =>
    intro x m m2 n T τ hx hm hm2 h
    have e : x = 100 := by omega
    subst e
    obtain ⟨m, rfl⟩ : ∃ z, m = z + 1 := ⟨m - 1, by omega⟩
    obtain ⟨m2, rfl⟩ : ∃ z, m2 = z + 1 := ⟨m2 - 1, by omega⟩
    have e2 : τ 1 2 = s0 2 := h.2.2.2.2.2.2.1 2 (by omega)
    refine ⟨n, T, τ, ?_, ?_, h, fun _ _ _ _ => rfl, fun _ _ _ _ _ => rfl, fun _ _ _ => rfl⟩
    · rw [g_L_pack_L6, if_pos (by omega)]
    · rw [f_X5_packs_L30, ld_t 2 (by omega) (by omega), bs, hC.1.total, if_pos (by omega), ckB_t (Or.inr rfl), bs]
  | succ d ih =>
    intro x m m2 n T τ hx hm hm2 h
    obtain ⟨m, rfl⟩ : ∃ z, m = z + 1 := ⟨m - 1, by omega⟩
    have hrow := h.rowOf hC (x : Int)
    have hrk : rk β (x : Int) = β 6 x := rk_nat (by omega)
    rw [hrk] at hrow
    have hks := kc_s β x
    rcases hC.1.2.1 x (by omega) with h6 | ⟨r, hr, h6, hi, hk⟩
    · rw [if_pos h6] at hks
      obtain ⟨n', T', τ', w1, w2, w3⟩ := ih (x + 1) m m2 n T τ (by omega) (by omega) (by omega) (by
        obtain ⟨h1, h2, h3, h4, h5, h7, h8⟩ := h
        have hno : ∀ y, y < 30 → pt s0 y 0 = 1 → pt s0 y 1 ≠ x := fun y hy hyi hyk => by
          have a1 := (hC.1.of hy hyi).1
          rw [hyk, hrk] at a1
          omega
        refine ⟨h1, h2, fun y hy => ?_, h4, h5, fun y hy => h7 y (fun z => hy ⟨z.1, z.2.1, by omega⟩), h8⟩
        rcases h3 y hy with ⟨a1, a2, a3, a4⟩ | z
        · have := hno y (by omega) a1
          exact Or.inl ⟨a1, a2, a3, fun w => a4 (by omega)⟩
        · exact Or.inr z)
      refine ⟨n', T', τ', ?_, ?_, w3⟩
      · rw [g_L_pack_L6, if_neg (by omega), hrow, bs, jp_t, h6, if_pos (by decide)]
        dsimp only
        rw [ck_t (by omega), bs]
        exact w1
      · rw [hks, Int.add_zero] at w2
        exact w2
    · obtain ⟨m2, rfl⟩ : ∃ z, m2 = z + 1 := ⟨m2 - 1, by omega⟩
      rw [if_neg (show ¬ β 6 x = -1 by omega)] at hks
      obtain ⟨u, n1, T1, τ1, p1, p2, p3, p4, p5, p6, p7⟩ := lp_step hqt hqi hit hC h hr hi hk
      obtain ⟨n', T', τ', w1, w2, w3, w4, w5, w6⟩ := ih (x + 1) m m2 n1 T1 τ1 (by omega) (by omega) (by omega) p4
      obtain ⟨r6, hlen⟩ := hC.2.1 r hr hi
      have hTl : T ir (4 * r + 1) = pt s0 r 2 := by
        rcases h.2.2.1 r r6 with ⟨-, -, a3, -⟩ | ⟨z, -⟩
        · exact a3
        · omega
      have e2 : τ 1 2 = s0 2 := h.2.2.2.2.2.2.1 2 (by omega)
      have hlt : kc β x < τ 1 2 := by
        rw [e2, ← hC.1.total]
        have := kc_mono β (show x + 1 ≤ 100 by omega)
        omega
      have hkr := kc_rng β x
      have hRWt : RW β (τ 1) := hC.1.congr (fun _ _ => rfl) (fun _ _ => rfl) e2 (fun y hy => ⟨h.2.2.2.2.2.2.2.1 y 0 hy (by omega), h.2.2.2.2.2.2.2.1 y 1 hy (by omega)⟩)
      have hrowt := hRWt.row (σ := τ) (k := x) (by omega)
      rw [if_neg (show ¬ β 6 x = -1 by omega), h6] at hrowt
      refine ⟨n', T', τ', ?_, ?_, w3, fun c c1 c2 c3 => (w4 c c1 c2 c3).trans (p5 c c1 c2 c3), fun c c1 c2 c3 c4 => (w5 c c1 c2 c3 c4).trans (p6 c c1 c2 c3 c4), fun j j1 j2 => (w6 j j1 j2).trans (p7 j j1 j2)⟩
      · rw [g_L_pack_L6, if_neg (by omega), hrow, bs, jp_t, h6, if_neg (by omega), ld_t (4 * r + 1) (by omega) (by omega), bs, hTl, p3, bd2_t, if_pos (show (1 : Int) ≠ 0 by decide)]
        dsimp only
        rw [ck_t (by omega), bs]
        exact w1
      · rw [f_X5_packs_L30, ld_t 2 (by omega) (by omega), bs, if_neg (show ¬ τ 1 2 ≤ kc β x by omega), if_neg (show ¬ ((1 : Int) = 0) by decide), x5_keyAt hRWt (by omega) (by omega) rfl, bs, hrowt, bs, p1, bs, p2, bd2_t, ck_t (by omega), bs]
        rw [hks] at w2
        exact w2
theorem law_packs (hqt : q ≠ t) (hqi : q ≠ ir) (hit : ir ≠ t) (hC : PC β s0) {T τ : Blk} (hs : ∀ j, j < 363 → τ 1 j = s0 j) (hr : ∀ y, y < 6 → (pt s0 y 0 = 1 ∧ T ir (4 * y) = pt s0 y 1 ∧ T ir (4 * y + 1) = pt s0 y 2) ∨ (pt s0 y 0 = 0 ∧ T ir (4 * y + 1) = -1)) (hset : T q 0 = s0 0 ∧ T q 1 = s0 1 ∧ T q 2 = s0 2) (hltr : ∀ y, y < 30 → pt s0 y 0 = 1 → LTR s0 y) : ∃ n' T' τ', g_L_pack T q 4 ir 28 t 64 = some (1, T') ∧ f_X5_packs τ = some (1, τ') ∧ PKL q t ir s0 100 n' T' τ' ∧ (∀ c, c ≠ q → c ≠ t → c ≠ ir → T' c = T c) ∧ (∀ c, c ≠ 0 → c ≠ 1 → c ≠ 8 → c ≠ 9 → τ' c = τ c) ∧ ∀ j, j ≠ 10 → j ≠ 12 → τ' 0 j = τ 0 j := by
  obtain ⟨u, u1, u2, u3, u4⟩ := x5_clear (τ := τ) (j := fun σ2 => f_X5_packs_L30 fu 1 0 σ2)
  have hu : ∀ j, j < 363 → u 1 j = s0 j := fun j hj => (u3 j hj).trans (hs j hj)
  have hp : ∀ y k, y < 30 → k < 12 → pt (u 1) y k = pt s0 y k := fun y k hy hk => hu _ (by omega)
  have hW : ∀ (g : Int → Int) (g0 : g 0 = 0) y, Wg g (u 1) y = 0 := fun g g0 y => Wg_none g0 (fun p hp h0 => absurd (u4 p hp) h0)
  obtain ⟨n', T', τ', w1, w2, w3, w4, w5, w6⟩ := lp_loop hqt hqi hit hC 100 0 fu fu 0 (up2 T q 3 0) u (by omega) (fu_lt (by omega)) (fu_lt (by omega)) ⟨⟨⟨up2_s, by omega⟩, fun k hk => by omega, fun k k' hk => by omega, fun p hp h0 => absurd (u4 p hp) h0⟩, fun p hp => Or.inl (u4 p hp), fun y hy => by
    rw [up2_ne (Ne.symm hqi)]
    rcases hr y hy with ⟨a1, a2, a3⟩ | z
    · exact Or.inl ⟨a1, a2, a3, fun w => by
        have := hC.1.of (show y < 30 by omega) a1
        omega⟩
    · exact Or.inr z, by rw [up2_n (by omega), up2_n (by omega), up2_n (by omega)]; exact hset, fun y => by rw [hW cl cl_0, hW one one_0]; omega, fun y _ => ⟨hW cl cl_0 y, hW one one_0 y⟩, fun j hj => hu j (by omega), fun y k hy hk => hp y k hy (by omega), fun y hy hyi => ⟨(hltr y hy hyi).congr (fun k hk => hp y k hy hk), fun k hk => by
    have := (hC.2.1 y hy hyi).2
    exact lt_c (fun m hm => hp y _ hy (by omega)) (by omega)⟩⟩
  refine ⟨n', T', τ', ?_, ?_, w3, fun c c1 c2 c3 => (w4 c c1 c2 c3).trans (up2_ne c1), fun c c1 c2 c3 c4 => (w5 c c1 c2 c3 c4).trans (u2 c c2), fun j j1 j2 => (w6 j j1 j2).trans (by rw [u2 0 (by omega)])⟩
  · unfold g_L_pack
    rw [sw_t 3 (by omega) (by omega), bs]
    exact w1
  · unfold f_X5_packs
    rw [jp_t, u1]
    exact w2
end PKL
