/-! PURE: append *)  -/
theorem RBc.txt {w : Nat → Prop} {β β' : Blk} {s : Nat → Int} (h : RBc w β s) (hb : ∀ c, c < 44 → β' c = β c) : RBc w β' s := by
  obtain ⟨h1, h4, h5, h6, h7, h8, h9⟩ := h
  refine ⟨?_, h4.congr (fun k _ => by rw [hb 6 (by omega)]) (fun x _ => by rw [hb 7 (by omega)]) rfl (fun _ _ => ⟨rfl, rfl⟩), ?_, h6.congr (fun _ _ => rfl) (fun _ _ => Iff.rfl) (fun x hx _ => ⟨by rw [hb 10 (by omega)], by rw [hb 9 (by omega)], by rw [hb 11 (by omega)], fun i _ => ?_⟩), fun x hx hi => ?_, h8, h9⟩
  · unfold SET
    rw [hb 0 (by omega)]
    exact h1
  · rw [hb 7 (by omega)]
    exact h5.congrB (fun c _ _ => hb c (by omega))
  · show β' (13 + x) i = β (13 + x) i
    rw [hb _ (by omega)]
  · have h10 := h7 x hx hi
    rw [hb 8 (by omega), hb 9 (by omega), hb 10 (by omega)]
    exact h10
theorem bw_t {α : Type} {B : Nat → Blk} {k i nA : Nat} {j a : Int} {K : (Nat → Blk) → Option α} (q : Nat) (h : j = (q : Int)) (hq : q < nA) : bw B k i nA j a K = K (ub B k (up2 (B k) i q a)) := by
  unfold bw
  rw [sw_t q h hq, bs]
theorem append_ok {σ τ : Blk} {B : Nat → Blk} {nb : Nat} (h : Rel σ B nb τ) (a1 a2 : Int) : ∃ v σ' B' nb' τ', f_X4_append σ B nb a1 a2 = some (v, σ', B', nb') ∧ f_X5_append τ a1 a2 = some (v, τ') ∧ Rel σ' B' nb' τ' := by
  obtain ⟨q, t, e1, e2, e3, e4, e5⟩ := h.1.q
  have hR := h.2.1
  rw [e1, Int.toNat_natCast] at hR
  have hRW := hR.1.2.1
  have htl := h.2.2.2.2.2.2.2
  unfold f_X4_append f_X5_append
  rw [gk_t e1 e3, x0_rowOf hRW, bs, x5_rowWith hRW, bs]
  rcases hRW.key a1 with hk | ⟨r, hr, hk, hi, hka, -⟩
  · rw [hk, if_pos rfl, if_neg (by decide), if_neg (by decide)]
    exact ⟨_, _, _, _, _, rfl, rfl, h⟩
  have ha1 := hRW.of hr hi
  rw [hka] at ha1
  obtain ⟨h8, h8r, hlr, -⟩ := hR.1.2.2.2.2.1 r hr hi
  rw [hk, if_neg (show ¬ (r : Int) = -1 by omega), if_pos (show (r : Int) ≠ -1 by omega), if_pos (show (r : Int) ≠ -6 by omega), x5_within, bs]
  by_cases g1 : a2 < 0
  · rw [if_pos g1, if_pos g1, if_neg (by decide)]
    exact ⟨_, _, _, _, _, rfl, rfl, h⟩
  rw [if_neg g1, if_neg g1]
  by_cases g2 : a2 < 26
  · rw [if_pos g2, if_neg (show ¬ 25 < a2 by omega), if_pos (show (1 : Int) ≠ 0 by decide), gk_t e1 e3, ld_t r rfl hr, bs, h8, x5_part r 2 rfl (by omega) hr (by omega), bs]
    by_cases g3 : pt (τ 1) r 2 < 40
    · obtain ⟨len, hlen⟩ : ∃ len : Nat, pt (τ 1) r 2 = len := ⟨(pt (τ 1) r 2).toNat, by omega⟩
      obtain ⟨β', b1, b2⟩ := x0_copyFrom (σ := B t) (τ := B q)
      obtain ⟨τ1, m1, m2, m3, -⟩ := x5_moves (σ := τ) (i1 := 1) (n1 := 763) (i3 := 2) (n3 := 763) (a2 := 0) (a4 := 0) 0 0 (by omega) (by omega) (by omega) (by omega) (by omega)
      have et1 : τ1 1 = τ 1 := m2 1 (by omega)
      obtain ⟨z, z1, z2, z3, z4, z5, z6⟩ := x5_takeText (σ := τ1) hr (by rw [et1]; exact h8r) (by rw [et1]; exact hlr)
      rw [et1, hlen] at z4 z5 z6
      have hzc : up2 z 8 len a2 0 10 = (len : Int) := by rw [up2_ne (by omega)]; exact z4
      rw [if_pos g3, if_pos (show pt (τ 1) r 2 ≠ 40 by omega), gk_t e2 e4, gk_t e1 e3, ne_t (by omega), b1, cbU_t, gk_t e2 e4, hlen, ck_t (by omega), bs, ub_s, m1, bs, z1, bs, z4, sw_t len rfl (by omega), bs, hzc, ck_t (by omega), bs, pf_t]
      generalize hu : up2 (up2 z 8 len a2) 0 10 ((len : Int) + 1) = u
      have u1 : u 1 = τ 1 := by rw [← hu, up2_ne (by omega), up2_ne (by omega), z2 1 (by omega) (by omega)]; exact et1
      have u10 : u 0 10 = (len : Int) + 1 := by rw [← hu, up2_s]
      have uc : ∀ c, 4 ≤ c ∧ c ≤ 7 → u c = τ c := fun c hc => by rw [← hu, up2_ne (by omega), up2_ne (by omega), z2 c (by omega) (by omega), m2 c (by omega)]
      have u0 : ∀ j, j ≠ 10 → u 0 j = τ 0 j := fun j hj => by rw [← hu, up2_n (by omega), up2_ne (by omega), z3 j hj, m2 0 (by omega)]
      have u2 : ∀ j, j < 763 → u 2 j = τ 1 j := fun j hj => by
        have h1 := m3 j hj
        rw [Nat.zero_add] at h1
        rw [← hu, up2_ne (by omega), up2_ne (by omega), z2 2 (by omega) (by omega), h1]
      have u8l : ∀ k : Nat, k < len → u 8 k = lt (τ 1) r k := fun k hk => by rw [← hu, up2_ne (by omega), up2_n (by omega)]; exact z5 k (by omega)
      have u8e : u 8 len = a2 := by rw [← hu, up2_ne (by omega), up2_s]
      have utl : TL u := fun k hk => by
        by_cases c1 : k < len
        · rw [u8l k c1]; unfold lt; exact ⟨Int.emod_nonneg _ (by decide), Int.emod_lt_of_pos _ (by decide)⟩
        · by_cases c2 : k = len
          · rw [c2, u8e]; omega
          · rw [← hu, up2_ne (by omega), up2_n (by omega), z6 k (by omega), m2 8 (by omega)]
            exact htl k hk
      have hkk : ∀ (β2 : Blk) (k : Nat), (k : Int) ≠ σ 0 4 → ub (ub B t β') t β2 k = B k := fun β2 k hk => by
        rw [ub_n (by omega), ub_n (by omega)]
      have hcp := hR.congrB b2
      rcases lay_row (β := β') (τ := u) (a := a1) (len := (len : Int) + 1) (by rw [u1]; exact hcp.1) (by omega) u10 (by omega) (fun k hk => utl k (by omega)) with ⟨r', β2, τ2, r0, r1, r2, r3, r5, r6, r7, r8, r9, r10, r11⟩ | ⟨β2, τ2, r2, r3, r5, r6⟩
      · have err : r' = r := by
          have h1 : rk β' a1 = rk (B q) a1 := by
            unfold rk
            rw [if_pos (show 0 ≤ a1 ∧ a1 < 100 by omega), if_pos (show 0 ≤ a1 ∧ a1 < 100 by omega)]
            exact b2.2.2.2.1 _ (by omega)
          rw [h1, hk] at r11
          omega
        subst err
        have hb : RB (up2 β2 (44 + r') len a2) (τ2 1) := by
          refine ⟨r3.txt (fun c hc => up2_ne (by omega)), fun x hx hi2 k hk2 => ?_⟩
          by_cases e : x = r'
          · subst e
            rw [r6.1, u10] at hk2
            rw [r6.2.2 k (by omega)]
            by_cases c2 : k = len
            · rw [c2, up2_s, u8e]
            · rw [up2_n (by omega), r9 _ (by omega), u8l k (by omega)]
              exact hcp.2 x hx hi k (by omega)
          · rw [r10 x hx e 0 (by omega), u1] at hi2
            rw [r10 x hx e 2 (by omega), u1] at hk2
            have hl2 := (hcp.1.2.2.2.2.1 x hx hi2).2.1
            rw [up2_ne (by omega), r9 _ (by omega), lt_c (s := τ 1) (fun m hm => by rw [r10 x hx e _ (by omega), u1]) (by omega)]
            exact hcp.2 x hx hi2 k hk2
        have hB3 : Rel σ (ub (ub (ub B t β') t β2) t (up2 β2 (44 + r') len a2)) nb τ := h.cB (fun k hk => by rw [ub_n (by omega)]; exact hkk β2 k hk)
        have f4 : ∀ c, c = 2 ∨ (4 ≤ c ∧ c ≤ 8) → τ2 c = u c := fun c hc => r5.1 c (by omega) (by omega) (by omega) (by omega)
        obtain ⟨σ1, B1, nb1, τ3, σ2, w1, w2, w3, w4, w5, w6, w7, w8⟩ := rec_take (τ := τ2) hB3.1 (by rw [e2, Int.toNat_natCast, ub_s]; exact hb) (hB3.2.1.congrS (fun j hj => by rw [f4 2 (by omega)]; exact u2 j hj)) (hB3.2.2.1.cT (by rw [r5.2 4 (by omega)]; exact u0 4 (by omega)) (by rw [f4 4 (by omega)]; exact uc 4 (by omega))) (hB3.2.2.2.1.cT (by rw [f4 5 (by omega)]; exact uc 5 (by omega)) (by rw [f4 6 (by omega)]; exact uc 6 (by omega))) (hB3.2.2.2.2.congr rfl rfl (by rw [r5.2 8 (by omega)]; exact u0 8 (by omega)) (by rw [f4 7 (by omega)]; exact uc 7 (by omega)) (fun _ => TL.of (f4 8 (by omega)) utl))
        rw [e1, Int.toNat_natCast] at w1
        rw [r1, cbW_t, if_pos (show (r' : Int) ≠ -1 by omega), gk_t e2 e4, gd_t (by omega) (by omega), Int.toNat_natCast, bw_t len rfl (by omega), ub_s, gk_t e1 e3, w1, bd3_t, w3, bd3_t, bs, r2, bd2_t, if_pos (show (1 : Int) ≠ 0 by decide), w2, bs, w8 10 (by omega), r5.2 10 (by omega), u10]
        exact ⟨_, _, _, _, _, rfl, rfl, w4⟩
      · rw [r2, cbW_t, if_neg (show ¬ ((-1 : Int) ≠ -1) by decide), r3, bd2_t, if_neg (show ¬ ((0 : Int) ≠ 0) by decide)]
        refine ⟨_, _, _, _, _, rfl, rfl, (h.cB (hkk β2)).cT (fun j hj => by rw [r6 j hj, u1]) ⟨fun c hc => by rw [r5.1 c (by omega) (by omega) (by omega) (by omega)]; exact uc c hc, by rw [r5.2 4 (by omega)]; exact u0 4 (by omega), by rw [r5.2 8 (by omega)]; exact u0 8 (by omega), fun _ => TL.of (r5.1 8 (by omega) (by omega) (by omega) (by omega)) utl⟩⟩
    · rw [if_neg g3, if_neg (show ¬ pt (τ 1) r 2 ≠ 40 by omega)]
      exact ⟨_, _, _, _, _, rfl, rfl, h⟩
  · rw [if_neg g2, if_pos (show 25 < a2 by omega), if_neg (by decide)]
    exact ⟨_, _, _, _, _, rfl, rfl, h⟩
