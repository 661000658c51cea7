/-! PURE: undo, restore *)  -/
theorem undo_ok {σ τ : Blk} {B : Nat → Blk} {nb : Nat} (h : Rel σ B nb τ) : ∃ v σ' B' nb' τ', f_X4_undo σ B nb = some (v, σ', B', nb') ∧ f_X5_undo τ = some (v, τ') ∧ Rel σ' B' nb' τ' := by
  have h0 := h
  obtain ⟨hF, hB, hH, hS, hP⟩ := h
  obtain ⟨q, t, e1, e2, e3, e4, e5⟩ := hF.q
  obtain ⟨h1, h2, h3, h4⟩ := id hH
  unfold f_X4_undo f_X5_undo f_X1_giveBack
  by_cases ez : τ 0 4 = 0
  · rw [if_neg (show ¬ σ 6 1 ≠ 0 by omega), if_neg (show ¬ τ 0 4 ≠ 0 by omega)]
    exact ⟨_, _, _, _, _, rfl, rfl, h0⟩
  · obtain ⟨n, hn⟩ : ∃ n : Nat, τ 0 4 = ((n + 1 : Nat) : Int) := ⟨(τ 0 4).toNat - 1, by omega⟩
    obtain ⟨f, hf⟩ : ∃ f : Nat, σ 6 2 = f := ⟨(σ 6 2).toNat, by omega⟩
    have h5 := h4 n (by omega)
    rw [hf, Int.toNat_natCast] at h5
    have hslot : (f + n) % 6 < 6 := by omega
    obtain ⟨a, ha⟩ : ∃ a : Nat, σ 7 ((f + n) % 6) = a := ⟨(σ 7 ((f + n) % 6)).toNat, by omega⟩
    have han := hF.2.2.1 (2 + (f + n) % 6) (by omega)
    rw [rf7 σ hslot, ha] at han
    have hoff := (hF.off (k := q) (Or.inl e1.symm)).1 _ hslot (by omega)
    rw [ha, Int.toNat_natCast] at hoff h5
    obtain ⟨β', b1, b2⟩ := x0_copyFrom (σ := B q) (τ := B a)
    obtain ⟨τ', m1, m2, m3, -⟩ := x5_moves (σ := up2 τ 0 4 n) (i1 := 4) (n1 := 4578) (i3 := 1) (n3 := 763) (a2 := (n : Int) * 763) (a4 := 0) (763 * n) 0 (by omega) (by omega) (by omega) (by omega) (by omega)
    have m4 : τ' 0 4 = n := by rw [m2 0 (by omega), up2_s]
    rw [if_pos (show σ 6 1 ≠ 0 by omega), if_pos (show τ 0 4 ≠ 0 by omega), gk_t e1 e3, ck_t (by omega), bs, rm_t (by omega), bs, if_neg (show ¬ σ 6 1 ≤ 0 by omega), show (σ 6 2 + σ 6 1 - 1) % 6 = (((f + n) % 6 : Nat) : Int) by omega, ld_t ((f + n) % 6) rfl hslot, bs, if_neg (show ¬ σ 7 ((f + n) % 6) < 0 by omega), bs, gk_t ha (by omega), ne_t (by omega), b1, cbU_t, ck_t (a := σ 6 1 - 1) (by omega), bs, pf_t, bd3_t, ck_t (a := τ 0 4 - 1) (by omega), bs, pf_t, up2_s, up2_s, show τ 0 4 - 1 = (n : Int) by omega, show σ 6 1 - 1 = (n : Int) by omega, ck_t (a := (n : Int) * 763) (by omega), bs, m1, bs, m4]
    refine ⟨_, _, _, _, _, rfl, rfl, hF.congr (up2_n (by omega)) (up2_n (by omega)) (up2_ne (by omega)) (up2_ne (by omega)), ?_, ?_, ?_, ?_⟩
    · rw [up2_n (by omega), e1, Int.toNat_natCast, ub_s]
      refine (h5.2.congrB b2).congrS (fun j hj => ?_)
      have h6 := m3 j hj
      rw [Nat.zero_add] at h6
      rw [h6, up2_ne (by omega)]
    · obtain ⟨-, -, -, h9⟩ := hH.ub (β := β') (k := q) hF (Or.inl e1.symm)
      refine ⟨by rw [up2_s, m4], by omega, by rw [up2_n (by omega)]; exact h3, fun i hi => ?_⟩
      rw [m4] at hi
      rw [up2_n (by omega), up2_n (by omega), m2 4 (by omega), up2_ne (by omega)]
      exact h9 i (by omega)
    · exact ((hS.ub (β := β') (k := q) hF (Or.inl e1.symm)).congr (up2_ne (by omega)) (fun _ _ _ => rfl) rfl rfl).cT (by rw [m2 5 (by omega), up2_ne (by omega)]) (by rw [m2 6 (by omega), up2_ne (by omega)])
    · exact hP.congr (up2_ne (by omega)) (up2_ne (by omega)) (by rw [m2 0 (by omega), up2_n (by omega)]) (by rw [m2 7 (by omega), up2_ne (by omega)]) (TL.of (by rw [m2 8 (by omega), up2_ne (by omega)]))
theorem RB.n2 {β : Blk} {s : Nat → Int} (h : RB β s) : β 0 2 = s 2 := h.1.1.2.2
theorem restore_ok {σ τ : Blk} {B : Nat → Blk} {nb : Nat} (h : Rel σ B nb τ) (a1 : Int) : ∃ v σ' B' nb' τ', f_X4_restore σ B nb a1 = some (v, σ', B', nb') ∧ f_X5_restore τ a1 = some (v, τ') ∧ Rel σ' B' nb' τ' := by
  obtain ⟨q, σ1, B1, nb1, τ1, e1, e2, e3, e4, e5, e6, r1, r2, r3, r5, r6, r7, -⟩ := rec_change h
  unfold f_X4_restore f_X5_restore
  rw [x5_within, bs]
  by_cases g1 : a1 < 0
  · rw [if_pos g1, if_pos g1, if_neg (by decide)]
    exact ⟨_, _, _, _, _, rfl, rfl, h⟩
  rw [if_neg g1, if_neg g1]
  by_cases g2 : a1 < 2
  · obtain ⟨i, hi⟩ : ∃ i : Nat, a1 = i := ⟨a1.toNat, by omega⟩
    have hi2 : i < 2 := by omega
    rw [if_pos g2, if_neg (show ¬ (1 : Int) < a1 by omega), if_pos (by decide), ld_t i hi hi2, bs, ld_t i hi hi2, bs]
    rcases h.2.2.2.1 i hi2 with ⟨s1, s2⟩ | ⟨s1, s2, -⟩
    · rw [if_pos s1, if_neg (show ¬ τ 6 i ≠ 0 by omega)]
      exact ⟨_, _, _, _, _, rfl, rfl, h⟩
    · obtain ⟨rF, rB, rH, rS, rP⟩ := r3
      have e8 : σ1 8 = σ 8 := r5 8 (by omega) (by omega)
      obtain ⟨a, ha⟩ : ∃ a : Nat, σ1 8 i = a := ⟨(σ1 8 i).toNat, by rw [e8]; omega⟩
      have han := rF.2.2.1 (8 + i) (by omega)
      rw [rf8 σ1 hi2, ha] at han
      have hoff := (rF.off (k := q) (Or.inl e3.symm)).2 i hi2 (by omega)
      rw [ha, Int.toNat_natCast] at hoff
      obtain ⟨β', b1, b2⟩ := x0_copyFrom (σ := B1 q) (τ := B1 a)
      obtain ⟨τ', m1, m2, m3, -⟩ := x5_moves (σ := τ1) (i1 := 5) (n1 := 1526) (i3 := 1) (n3 := 763) (a2 := 763 * (i : Int)) (a4 := 0) (763 * i) 0 (by omega) (by omega) (by omega) (by omega) (by omega)
      have hb : RB β' (τ' 1) := by
        rcases rS i hi2 with ⟨s3, -⟩ | ⟨s3, s4, s5⟩
        · omega
        · rw [ha, Int.toNat_natCast] at s5
          refine (s5.congrB b2).congrS (fun j hj => ?_)
          have h6 := m3 j hj
          rw [Nat.zero_add] at h6
          exact h6
      rw [if_neg (show ¬ σ 8 i < 0 by omega), if_pos (show τ 6 i ≠ 0 by omega), gk_t e1 e2, r1, bd3_t, gk_t e3 e4, ld_t i hi hi2, bs, gk_t ha (by omega), ne_t (by omega), b1, cbU_t, gk_t e3 e4, ub_s, r2, bs, hi, ck_t (by omega), bs, m1, bs, ld_t 2 (by omega) (by omega), bs, hb.n2]
      refine ⟨_, _, _, _, _, rfl, rfl, rF, ?_, (rH.ub rF (Or.inl e3.symm)).cT (by rw [m2 0 (by omega)]) (m2 4 (by omega)), (rS.ub rF (Or.inl e3.symm)).cT (m2 5 (by omega)) (m2 6 (by omega)), rP.congr rfl rfl (by rw [m2 0 (by omega)]) (m2 7 (by omega)) (TL.of (m2 8 (by omega)))⟩
      rw [e3, Int.toNat_natCast, ub_s]
      exact hb
  · rw [if_neg g2, if_pos (show (1 : Int) < a1 by omega), if_neg (by decide)]
    exact ⟨_, _, _, _, _, rfl, rfl, h⟩
