/-! PURE: the law's would always comes out 1 *)  -/
theorem INV.tab {σ : Blk} {B : Nat → Blk} {nb : Nat} {T T' τ : Blk} (h : INV σ B nb T τ) (hT : ∀ c, c = 0 ∨ c = 1 ∨ c = 2 ∨ c = 6 → T' c = T c) : INV σ B nb T' τ := ⟨h.1, h.2.congr hT (fun _ _ => rfl)⟩
theorem INV.q {σ : Blk} {B : Nat → Blk} {nb : Nat} {T τ : Blk} (h : INV σ B nb T τ) : ∃ q : Nat, σ 0 3 = q ∧ q < nb ∧ RB (vb B q) (τ 1) := by
  obtain ⟨q, t, e1, e2, e3, -⟩ := h.1.1.q
  have hB := h.1.2.1
  rw [e1, Int.toNat_natCast] at hB
  exact ⟨q, e1, e3, hB⟩
theorem st_would {σ T τ : Blk} {B : Nat → Blk} {nb : Nat} (h : INV σ B nb T τ) (a : Int) : ∃ σ' B' nb' T' τ', g_L_would σ B nb T a = some (1, σ', B', nb', T') ∧ INV σ' B' nb' T' τ' := by
  obtain ⟨q, e1, e2, hB⟩ := h.q
  obtain ⟨C, P, K, hH⟩ := heads h.2 hB
  obtain ⟨r1, l1, l2, l3⟩ := l_low (a := a) (n := 17) (by omega)
  obtain ⟨r8, m1, m2, m3⟩ := l_low (a := ishr a 5) (n := 100) (by omega)
  unfold g_L_would
  rw [l1, bs, jp_t]
  obtain ⟨b, c, σ1, B1, nb1, T1, τ1, p1, p2, p3, p4⟩ := heads_loop (r1 := r1) (j2 := fun (x3 : Int) (σ4 : Blk) (B5 : Nat → Blk) (N6 : Nat) (τ7 : Blk) =>
    Option.bind (g_L_low (ishr a 5) 100) fun r8 =>
    Option.bind (g_L_rowOf τ7 r8 1 28) fun r9 =>
    jp (fun (x11 : Int) (σ12 : Blk) (B13 : Nat → Blk) (N14 : Nat) (τ15 : Blk) =>
      bd4 (g_X4_bestHead σ12 B13 N14) fun r16 σ17 B18 N19 =>
      if r16 ≠ x3 then (
        some (0, σ17, B18, N19, τ15)) else (
        bd4 (g_X4_most σ17 B18 N19 r8) fun r20 σ21 B22 N23 =>
        jp (fun (x25 : Int) =>
          if r20 ≠ x25 then (
            some (0, σ21, B22, N23, τ15)) else (
            some (1, σ21, B22, N23, τ15))) fun j24 =>
        if 0 ≤ x11 then (
          j24 x11) else (
          j24 ((-6))))) fun j10 =>
    g_L_would_L265 r9 j10 fu 40 σ4 B5 N6 τ7) hH 17 fu (-6) 0 σ B nb T τ (by omega) (fu_lt (by omega)) h (fun _ _ => rfl) (Or.inl ⟨rfl, Or.inr rfl⟩)
  have p1' := p1
  rw [show ((17 : Nat) : Int) - 1 = 16 from rfl] at p1'
  rw [p1']
  obtain ⟨q1, f1, f2, hB1⟩ := p2.q
  have hTL : TL τ1 := p2.1.2.2.2.2.2.2.2
  obtain ⟨T2, T3, τ3, c1, c2, c3, c4, c5, c6⟩ := l_most p2.2 hB1 (show 0 ≤ r8 ∧ r8 < 100 by omega) hTL
  have p5 : INV σ1 B1 nb1 T3 τ1 := p2.tab c4
  obtain ⟨σ4, B4, nb4, τ4, g1, g2, g3⟩ := st_best p5 p3 (fun x hx => (hH x hx).2) p4
  obtain ⟨q4, k1, k2, hB4⟩ := g2.q
  have hTL4 : TL τ4 := g2.1.2.2.2.2.2.2.2
  obtain ⟨-, -, τ5, -, -, -, -, n5, n6⟩ := l_most g2.2 hB4 (show 0 ≤ r8 ∧ r8 < 100 by omega) hTL4
  obtain ⟨σ6, B6, nb6, w1, w2⟩ := st_most g2 n5 n6
  have hrow : g_L_rowOf T1 r8 1 28 = some (rk (vb B1 q1) r8) := l_rowOf p2.2.2.1 hB1.1.2.1 r8
  obtain ⟨m, hm⟩ : ∃ m, fu = m + 1 := ⟨fu - 1, by have := fu_lt (k := 0) (by omega); omega⟩
  rw [m1, bs, hrow, bs, jp_t, hm, g_L_would_L265, if_neg (by decide), c1, bs, jp_t]
  have hend : ∀ R : Option (Int × Dp), R = some (1, σ6, B6, nb6, T3) → ∃ σ' B' nb' T' τ', R = some (1, σ', B', nb', T') ∧ INV σ' B' nb' T' τ' := fun R hR => ⟨σ6, B6, nb6, T3, τ5, hR, w2⟩
  rcases hB1.1.2.1.key r8 with hk | ⟨r, hr, hk, -⟩
  · rw [hk, if_neg (by decide)]
    dsimp only
    rw [jp_t, if_neg (by decide)]
    dsimp only
    rw [c2 hk, bd2_t, if_neg (by decide), g1, bd4_t, if_neg (fun z => z rfl), w1, bd4_t, jp_t, if_pos (by decide)]
    dsimp only
    rw [if_neg (fun z => z rfl)]
    exact hend _ rfl
  · have hw := c3 (by omega)
    rw [hk] at hw
    rw [hk, if_pos (by omega)]
    dsimp only
    rw [jp_t, if_pos (by omega)]
    dsimp only
    rw [hw, bd2_t, if_neg (by decide), g1, bd4_t, if_neg (fun z => z rfl), w1, bd4_t, jp_t, if_pos (by decide)]
    dsimp only
    rw [if_neg (fun z => z rfl)]
    exact hend _ rfl
