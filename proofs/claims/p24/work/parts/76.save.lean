/-! PURE: save *)  -/
theorem save_ok {σ τ : Blk} {B : Nat → Blk} {nb : Nat} (h : Rel σ B nb τ) (a1 : Int) : ∃ v σ' B' nb' τ', f_X4_save σ B nb a1 = some (v, σ', B', nb') ∧ f_X5_save τ a1 = some (v, τ') ∧ Rel σ' B' nb' τ' := by
  have h0 := h
  obtain ⟨hF, hB, hH, hS, hP⟩ := h
  obtain ⟨q, t, e1, e2, e3, e4, e5⟩ := hF.q
  rw [e1, Int.toNat_natCast] at hB
  unfold f_X4_save f_X5_save
  rw [x5_within, bs]
  by_cases g1 : a1 < 0
  · rw [if_pos g1, if_pos g1, if_neg (by decide)]
    exact ⟨_, _, _, _, _, rfl, rfl, h0⟩
  rw [if_neg g1, if_neg g1]
  by_cases g2 : a1 < 2
  · obtain ⟨i, hi⟩ : ∃ i : Nat, a1 = i := ⟨a1.toNat, by omega⟩
    subst hi
    have hi2 : i < 2 := by omega
    obtain ⟨τ1, m1, m2, m3, m4⟩ := x5_moves (σ := τ) (i1 := 1) (n1 := 763) (i3 := 5) (n3 := 1526) (a2 := 0) (a4 := 763 * (i : Int)) 0 (763 * i) (by omega) (by omega) (by omega) (by omega) (by omega)
    have e21 : up2 τ1 6 i 1 1 2 = τ 1 2 := by rw [up2_ne (by omega), m2 1 (by omega)]
    have tail : ∀ (u : Blk) (C : Nat → Blk) (N : Nat), RF u N → (∀ c, c ≠ 8 → u c = σ c) → 0 ≤ u 8 i → (∀ j, j ≠ i → u 8 j = σ 8 j) → (∀ k : Nat, k < nb → C k = B k) → nb ≤ N → ∃ B', (Option.bind (ld u 8 2 (i : Int)) fun v6 => gk v6 N fun q7 => gk (u 0 3) N fun q8 => ne q7 q8 (cbU (f_X0_copyFrom (C q7) (C q8)) C q7 fun B9 => gk (u 0 3) N fun q10 => some (B9 q10 0 2, u, B9, N))) = some (τ 1 2, u, B', N) ∧ Rel u B' N (up2 τ1 6 i 1) := by
      intro u C N uF uc ua us uB hN
      obtain ⟨a, ha⟩ : ∃ a : Nat, u 8 i = a := ⟨(u 8 i).toNat, by omega⟩
      have hq : u 0 3 = q := by rw [uc 0 (by omega)]; exact e1
      have haN := uF.2.2.1 (8 + i) (by omega)
      rw [rf8 u hi2, ha] at haN
      have hoff := (uF.off (k := q) (Or.inl hq.symm)).2 i hi2 (by omega)
      rw [ha, Int.toNat_natCast] at hoff
      obtain ⟨β', b1, b2⟩ := x0_copyFrom (σ := C a) (τ := C q)
      have hb : RB β' (τ 1) := RB.congrB (by rw [uB q e3]; exact hB) b2
      have eq : ub C a β' q = B q := by rw [ub_n (by omega)]; exact uB q e3
      rw [ld_t i rfl hi2, bs, gk_t ha (by omega), gk_t hq (by omega), ne_t hoff, b1, cbU_t, gk_t hq (by omega), eq, hB.n2]
      refine ⟨_, rfl, uF, ?_, ?_, fun j hj => ?_, ?_⟩
      · rw [hq, Int.toNat_natCast, eq]
        refine hB.congrS (fun j hj => ?_)
        rw [up2_ne (by omega), m2 1 (by omega)]
      · refine hH.congr (uc 6 (by omega)) (fun x hx hp => ⟨by rw [uc 7 (by omega)], ?_⟩) (by rw [up2_ne (by omega), m2 0 (by omega)]) (by rw [up2_ne (by omega), m2 4 (by omega)])
        have h7 := uF.2.2.2.1 (8 + i) (2 + x) (by omega) (by omega) (by omega) (by rw [rf8 u hi2]; exact ua)
        rw [rf8 u hi2, rf7 u hx, uc 7 (by omega), ha] at h7
        have h8 := hF.2.2.1 (2 + x) (by omega)
        rw [rf7 σ hx] at h8
        rw [ub_n (by omega)]
        exact uB _ (by omega)
      · by_cases e : j = i
        · subst e
          refine Or.inr ⟨ua, up2_s, ?_⟩
          rw [ha, Int.toNat_natCast, ub_s]
          refine hb.congrS (fun x hx => ?_)
          show up2 τ1 6 j 1 5 (763 * j + x) = τ 1 x
          rw [up2_ne (by omega), m3 x hx, Nat.zero_add]
        · rcases hS j hj with h1 | ⟨h1, h2, h3⟩
          · exact Or.inl ⟨by rw [us j e]; exact h1.1, by rw [up2_n (by omega), m2 6 (by omega)]; exact h1.2⟩
          · refine Or.inr ⟨by rw [us j e]; exact h1, by rw [up2_n (by omega), m2 6 (by omega)]; exact h2, ?_⟩
            have h7 := uF.2.2.2.1 (8 + i) (8 + j) (by omega) (by omega) (by omega) (by rw [rf8 u hi2]; exact ua)
            rw [rf8 u hi2, rf8 u hj, us j e, ha] at h7
            have h8 := hF.2.2.1 (8 + j) (by omega)
            rw [rf8 σ hj] at h8
            rw [us j e, ub_n (by omega), uB _ (by omega)]
            refine h3.congrS (fun x hx => ?_)
            show up2 τ1 6 i 1 5 (763 * j + x) = τ 5 (763 * j + x)
            rw [up2_ne (by omega)]
            exact m4 _ (by omega)
      · exact hP.congr (uc 1 (by omega)) (uc 2 (by omega)) (by rw [up2_ne (by omega), m2 0 (by omega)]) (by rw [up2_ne (by omega), m2 7 (by omega)]) (TL.of (by rw [up2_ne (by omega), m2 8 (by omega)]))
    rw [if_pos g2, if_neg (show ¬ (1 : Int) < (i : Int) by omega), if_pos (by decide), ld_t i rfl hi2, bs, jp_t, ck_t (a := 763 * (i : Int)) (by omega), bs, m1, bs, sw_t i rfl hi2, bs, ld_t 2 (by omega) (by omega), bs, e21]
    by_cases ev : σ 8 i < 0
    · obtain ⟨β0, i1, -⟩ := x0_init
      have hnb := hF.nb
      rw [if_pos ev, nB_t i1, ck_t (by omega), bs, sw_t i rfl hi2, bs]
      obtain ⟨B', w1, w2⟩ := tail (up2 σ 8 i nb) (ub B nb β0) (nb + 1) (hF.new (k := 8 + i) (by omega) (by rw [rf8 σ hi2]; exact ev) (fun x hx => by
        unfold rf
        by_cases e : x = 8 + i
        · rw [if_pos e, if_neg (by omega), if_neg (by omega), if_neg (by omega), show x - 8 = i by omega, up2_s]
        · rw [if_neg e]
          by_cases e0 : x = 0
          · rw [if_pos e0, if_pos e0, up2_n (by omega)]
          rw [if_neg e0, if_neg e0]
          by_cases e1 : x = 1
          · rw [if_pos e1, if_pos e1, up2_n (by omega)]
          rw [if_neg e1, if_neg e1]
          by_cases e8 : x < 8
          · rw [if_pos e8, if_pos e8, up2_n (by omega)]
          · rw [if_neg e8, if_neg e8, up2_n (by omega)])) (fun c hc => up2_ne hc) (by rw [up2_s]; omega) (fun j hj => up2_n (by omega)) (fun k hk => ub_n (by omega)) (by omega)
      exact ⟨_, _, _, _, _, w1, rfl, w2⟩
    · obtain ⟨B', w1, w2⟩ := tail σ B nb hF (fun _ _ => rfl) (by omega) (fun _ _ => rfl) (fun _ _ => rfl) (by omega)
      rw [if_neg ev]
      exact ⟨_, _, _, _, _, w1, rfl, w2⟩
  · rw [if_neg g2, if_pos (show (1 : Int) < a1 by omega), if_neg (by decide)]
    exact ⟨_, _, _, _, _, rfl, rfl, h0⟩
