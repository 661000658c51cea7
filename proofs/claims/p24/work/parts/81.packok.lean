/-! PURE: pack *)  -/
theorem pack_ok {σ τ : Blk} {B : Nat → Blk} {nb : Nat} (h : Rel σ B nb τ) : ∃ v σ' B' nb' τ', f_X4_pack σ B nb = some (v, σ', B', nb') ∧ f_X5_pack τ = some (v, τ') ∧ Rel σ' B' nb' τ' := by
  obtain ⟨q, t, e1, e2, e3, e4, e5⟩ := h.1.q
  have hR := h.2.1
  rw [e1, Int.toNat_natCast] at hR
  have hS0 := hR.1.1.1
  obtain ⟨τ1, m1, m2, m3, -⟩ := x5_moves (σ := τ) (i1 := 1) (n1 := 763) (i3 := 2) (n3 := 763) (a2 := 0) (a4 := 0) 0 0 (by omega) (by omega) (by omega) (by omega) (by omega)
  obtain ⟨r, B', v, t1, t2, t3, t4, t5⟩ := try_pack (u := τ1) (a := B q 0 0) h (by rw [hS0.1]; exact hS0.2) (fun j hj => by
    rw [m2 1 (by omega), hS0.1]
    by_cases e : j = 0
    · rw [e, us_s]
    · rw [us_n e])
  have hv2 : ∀ j, j < 763 → v 2 j = τ 1 j := fun j hj => by
    have h1 := m3 j hj
    rw [Nat.zero_add] at h1
    rw [t4.1 2 (by omega), h1]
  have hB := h.cB t5
  have hH := hB.2.2.1.cT (τ' := v) (by rw [t4.2.1, m2 0 (by omega)]) (by rw [t4.1 4 (by omega), m2 4 (by omega)])
  have hS := hB.2.2.2.1.cT (τ' := v) (by rw [t4.1 5 (by omega), m2 5 (by omega)]) (by rw [t4.1 6 (by omega), m2 6 (by omega)])
  have hP := hB.2.2.2.2.congr (σ' := σ) (τ' := v) rfl rfl (by rw [t4.2.2.1, m2 0 (by omega)]) (by rw [t4.1 7 (by omega), m2 7 (by omega)]) (fun z => t4.2.2.2 (TL.of (m2 8 (by omega)) z))
  unfold f_X4_pack f_X5_pack
  rw [gk_t e1 e3, t1, bd4_t, m1, bs, t2, bd2_t]
  rcases t3 with rfl | ⟨rfl, hb⟩
  · obtain ⟨τ', n1, n2, n3, -⟩ := x5_moves (σ := v) (i1 := 2) (n1 := 763) (i3 := 1) (n3 := 763) (a2 := 0) (a4 := 0) 0 0 (by omega) (by omega) (by omega) (by omega) (by omega)
    rw [if_neg (show ¬ ((0 : Int) ≠ 0) by decide), if_neg (show ¬ ((0 : Int) ≠ 0) by decide), n1, bs]
    refine ⟨_, _, _, _, _, rfl, rfl, hB.1, ?_, hH.cT (by rw [n2 0 (by omega)]) (n2 4 (by omega)), hS.cT (n2 5 (by omega)) (n2 6 (by omega)), hP.congr rfl rfl (by rw [n2 0 (by omega)]) (n2 7 (by omega)) (TL.of (n2 8 (by omega)))⟩
    refine hB.2.1.congrS (fun j hj => ?_)
    have h1 := n3 j hj
    rw [Nat.zero_add] at h1
    rw [h1]
    exact hv2 j hj
  · obtain ⟨σ1, B1, nb1, τ2, σ2, r1, r2, r3, r4, r5, r6, r7, -⟩ := rec_take hB.1 hb (hB.2.1.congrS hv2) hH hS hP
    rw [e1, Int.toNat_natCast] at r1
    rw [e2] at r5
    rw [e2, Int.toNat_natCast] at r6 hb
    have e7 := r4.1.2.2.1 0 (by omega)
    rw [rf0, r5] at e7
    rw [if_pos (show (1 : Int) ≠ 0 by decide), if_pos (show (1 : Int) ≠ 0 by decide), gk_t e1 e3, r1, bd3_t, r3, bd3_t, gk_t r5 (by omega), r6, x3_pagesInUse hb.1.2.2.1, bs, r2, bs, x5_pagesWith, bs, r7]
    exact ⟨_, _, _, _, _, rfl, rfl, r4⟩
