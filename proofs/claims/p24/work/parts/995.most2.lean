/-! PURE: most, by the law and by the reference *)  -/
theorem l_most {T τ β : Blk} {a : Int} (hI : INVc T (τ 1)) (hB : RB β (τ 1)) (ha : 0 ≤ a ∧ a < 100) (hTL : TL τ) : ∃ T1 T' τ', g_L_copy T 0 4 1 28 2 64 3 4 4 28 5 64 = some T1 ∧ (rk β a = -1 → g_L_write T1 6 40 1 3 4 4 28 5 64 = some (1, T')) ∧ (0 ≤ rk β a → g_L_write T1 (rk β a) 40 0 3 4 4 28 5 64 = some (1, T')) ∧ (∀ c, c = 0 ∨ c = 1 ∨ c = 2 ∨ c = 6 → T' c = T c) ∧ f_X5_most τ a = some (40, τ') ∧ ∀ j, j < 763 → τ' 1 j = τ 1 j := by
  obtain ⟨⟨hS, hRW, hP, hF, hLI, hZ, hW⟩, -⟩ := id hB
  obtain ⟨T1, c1, c2, c3, c4, c5⟩ := l_copy (T := T)
  obtain ⟨⟨n, hT⟩, hL, ⟨i0, i1, i2⟩, -, h5, h6⟩ := id hI
  obtain ⟨us1, us2⟩ := INVc.us (T := T) (fun x hx hw => (hL.live hx hw).1) h5 hF
  have hn := us2 n hT
  have hT1 : TT T1 3 5 (τ 1) n := hT.congr (c3 3 (by omega)) (fun k hk => c5 k hk) (fun _ _ => rfl)
  obtain ⟨τa, m1, m2, m3, -⟩ := x5_moves (σ := τ) (i1 := 1) (n1 := 763) (i3 := 2) (n3 := 763) (a2 := 0) (a4 := 0) 0 0 (by omega) (by omega) (by omega) (by omega) (by omega)
  obtain ⟨u, hu⟩ : ∃ u, up2 τa 0 10 40 = u := ⟨_, rfl⟩
  have u1 : u 1 = τ 1 := by rw [← hu, up2_ne (by omega), m2 1 (by omega)]
  have u8 : u 8 = τ 8 := by rw [← hu, up2_ne (by omega), m2 8 (by omega)]
  have u10 : u 0 10 = 40 := by rw [← hu, up2_s]
  have u2 : ∀ j, j < 763 → u 2 j = τ 1 j := fun j hj => by
    have h1 := m3 j hj
    rw [Nat.zero_add] at h1
    rw [← hu, up2_ne (by omega), h1]
  have htold : ∀ k : Nat, (k : Int) < 40 → 0 ≤ u 8 k ∧ u 8 k < 32 := fun k hk => by
    rw [u8]
    exact hTL k (by omega)
  have href : ∀ τw, f_X5_writes u a = some (1, τw) → τw 2 = u 2 → ∃ τ', f_X5_most τ a = some (40, τ') ∧ ∀ j, j < 763 → τ' 1 j = τ 1 j := fun τw hw hw2 => by
    obtain ⟨τ', n1, n2, n3, -⟩ := x5_moves (σ := τw) (i1 := 2) (n1 := 763) (i3 := 1) (n3 := 763) (a2 := 0) (a4 := 0) 0 0 (by omega) (by omega) (by omega) (by omega) (by omega)
    refine ⟨τ', ?_, fun j hj => ?_⟩
    · obtain ⟨m, hm⟩ : ∃ m, fu = m + 1 := ⟨fu - 1, by have := fu_lt (k := 0) (by omega); omega⟩
      unfold f_X5_most
      rw [x5_within, if_neg (by omega), if_neg (by omega), bs, if_pos (by decide), hm, f_X5_most_L16, if_neg (by decide), m1, bs, pf_t, hu, hw, bd2_t, n1, bs, if_neg (by decide)]
    · have h1 := n3 j hj
      rw [Nat.zero_add] at h1
      rw [h1, hw2]
      exact u2 j hj
  rcases hRW.key a with hk | ⟨r, hr, hk, hi, hka, -⟩
  · obtain ⟨T', τw, u17, f1, f2, f3, f4, f5, f6, f7, f8, f9⟩ := writes_new (q := 3) (t := 5) (ir := 4) (n := n) (rem := 10) (T0 := T) (T := T1) (u := u) (β := β) (a := a) (len := 40) (by omega) (by omega) (by omega) (by rw [u1]; exact hI) (by rw [u1]; exact hB) ha hk (by rw [u1]; exact hT1) (by rw [u1, c3 0 (by omega)]; exact i0) (by rw [u1, c3 1 (by omega)]; exact i1) u10 (by omega) htold (by omega)
    rw [u1] at f8 f9
    obtain ⟨T2, τ2, g1, g2, g3⟩ := lw_new (q := 3) (t := 5) (ir := 4) (r := 6) (n := n) (rem := 10) (len := 40) (T := T1) (τ := u) (by omega) (by omega) (by omega) (by omega) (by rw [u1]; exact hT1) (by rw [u1]; exact hP.1) u10 (by omega) htold (by rw [u1, c3 0 (by omega)]; exact ⟨i0, hS.1.2⟩) (by rw [u1, c3 1 (by omega)]; exact ⟨i1, h6, hS.2.1.2.2⟩) (by omega) (by omega) (by rw [u1]; omega) (by rw [u1]; exact ⟨f8, f9⟩)
    obtain ⟨τ', t1, t2⟩ := href τw f1 (by rw [f3.2.2.1.1 2 (by omega) (by omega) (by omega), f5 2 (by omega) (by omega)])
    refine ⟨T1, T2, τ', c1, fun _ => g2, fun z => by omega, fun c hc => ?_, t1, t2⟩
    obtain ⟨-, -, -, -, w8, -⟩ := g3
    rw [w8 c (by omega) (by omega) (by omega), c2 c (by omega) (by omega) (by omega)]
  · obtain ⟨l6, l0, l1, l2, l3, l4⟩ := hL.live hr hi
    have h34 := (hLI r hr hi).2.2.2 hi
    obtain ⟨u3, p1, p2, p3, -⟩ := x5_moves (σ := u) (i1 := 1) (n1 := 763) (i3 := 3) (n3 := 763) (a2 := 0) (a4 := 0) 0 0 (by omega) (by omega) (by omega) (by omega) (by omega)
    have e1 : u3 1 = τ 1 := by rw [p2 1 (by omega), u1]
    obtain ⟨T2, τ2, f1, f2, f3⟩ := lw_again (q := 3) (t := 5) (ir := 4) (r := r) (n := n) (rem := 10) (len := 40) (T := T1) (τ := u3) (w := isr (τ 1)) (by omega) (by omega) (by omega) (by omega) hi (by rw [e1]; exact hT1) (by rw [e1]; exact hP.1) (by rw [e1]; exact hF) (by rw [e1]; exact h34.1) (by rw [e1]; exact h34.2) (by rw [c4 _ (by omega), l3]; exact h34.1) (by rw [c4 _ (by omega), l4]; exact h34.2) (by rw [p2 0 (by omega)]; exact u10) (by omega) (fun k hk => by rw [p2 8 (by omega)]; exact htold k hk) (by rw [c3 0 (by omega), e1]; exact ⟨i0, hS.1.2⟩) (by rw [c3 1 (by omega), e1]; exact ⟨i1, h6, hS.2.1.2.2⟩) (by omega) (by omega) (by rw [e1]; omega)
    have hwr : f_X5_writes u a = some (1, τ2) := by
      unfold f_X5_writes
      rw [x5_rowWith (β := β) (by rw [u1]; exact hRW), hk, if_neg (show ¬ (r : Int) = -1 by omega), bs, jp_t, if_pos (show (r : Int) ≠ -6 by omega), p1, bs, jp_t, if_pos (show (r : Int) ≠ -6 by omega), f1, bd2_t]
      dsimp only
      rw [if_pos (show (1 : Int) ≠ 0 by decide), ckB_t (Or.inr rfl), bs]
    obtain ⟨τ', t1, t2⟩ := href τ2 hwr (by rw [f3.2.2.1.1 2 (by omega) (by omega) (by omega), p2 2 (by omega)])
    refine ⟨T1, T2, τ', c1, fun z => by omega, fun _ => by rw [hk]; exact f2, fun c hc => ?_, t1, t2⟩
    obtain ⟨-, -, -, -, w8, -⟩ := f3
    rw [w8 c (by omega) (by omega) (by omega), c2 c (by omega) (by omega) (by omega)]
theorem st_most {σ T τ : Blk} {B : Nat → Blk} {nb : Nat} {a : Int} (h : INV σ B nb T τ) {τ2 : Blk} (hf : f_X5_most τ a = some (40, τ2)) (hs : ∀ j, j < 763 → τ2 1 j = τ 1 j) : ∃ σ' B' nb', g_X4_most σ B nb a = some (40, σ', B', nb') ∧ INV σ' B' nb' T τ2 := by
  obtain ⟨hR, hI⟩ := h
  obtain ⟨u, σ', B', nb', τ', s1, s2, s3⟩ := most_ok hR a
  obtain ⟨B'', g1, g2⟩ := to_g b_most s1
  have e := Prod.mk.inj (Option.some.inj (hf.symm.trans s2))
  refine ⟨σ', B'', nb', by rw [g1, e.1], by rw [g2, e.2]; exact s3, hI.congr (fun _ _ => rfl) hs⟩
