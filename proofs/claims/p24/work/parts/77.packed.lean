/-! PURE: packing tried; ifPacked *)  -/
theorem Rel.cB {σ τ : Blk} {B B' : Nat → Blk} {nb : Nat} (h : Rel σ B nb τ) (hB : ∀ k : Nat, (k : Int) ≠ σ 0 4 → B' k = B k) : Rel σ B' nb τ := by
  obtain ⟨hF, hR, hH, hS, hP⟩ := h
  obtain ⟨q, t, e1, e2, e3, e4, e5⟩ := hF.q
  have ho := hF.off (k := t) (Or.inr e2.symm)
  refine ⟨hF, ?_, hH.congr rfl (fun i hi hp => ⟨rfl, hB _ (by have := ho.1 i hi hp; omega)⟩) rfl rfl, hS.congr rfl (fun i hi hp => hB _ (by have := ho.2 i hi hp; omega)) rfl rfl, hP⟩
  rw [hB _ (by omega)]
  exact hR
theorem try_pack {σ τ u : Blk} {B : Nat → Blk} {nb : Nat} {a : Int} (h : Rel σ B nb τ) (ha : 0 ≤ a ∧ a ≤ 16) (hu : ∀ j, j < 763 → u 1 j = us (τ 1) 0 a j) : ∃ r B' v, f_X4_tryPacking σ B nb a = some (r, σ, B', nb) ∧ f_X5_packs u = some (r, v) ∧ (r = 0 ∨ (r = 1 ∧ RB (B' (σ 0 4).toNat) (v 1))) ∧ Fy u v ∧ ∀ k : Nat, (k : Int) ≠ σ 0 4 → B' k = B k := by
  obtain ⟨hF, hR, hH, hS, hP⟩ := h
  obtain ⟨q, t, e1, e2, e3, e4, e5⟩ := hF.q
  rw [e1, Int.toNat_natCast] at hR
  obtain ⟨β', b1, b2⟩ := x0_copyFrom (σ := B t) (τ := B q)
  have hb : RB (up2 β' 0 0 a) (u 1) := (rb_set (j := 0) (Or.inl ⟨rfl, ha⟩) (hR.congrB b2)).congrS hu
  unfold f_X4_tryPacking
  rw [gk_t e2 e4, gk_t e1 e3, ne_t (by omega), b1, cbU_t, gk_t e2 e4, bp_t, gk_t e2 e4, ub_s, ub_s]
  have hk : ∀ (β2 : Blk) (k : Nat), (k : Int) ≠ σ 0 4 → ub (ub (ub B t β') t (up2 β' 0 0 a)) t β2 k = B k := fun β2 k hk => by
    rw [ub_n (by omega), ub_n (by omega), ub_n (by omega)]
  rcases pack_all hb with ⟨β2, v, p1, p2, p3, p4⟩ | ⟨β2, v, p1, p2, p3⟩
  · rw [p1, cbW_t, ckB_t (by omega), bs, e2, Int.toNat_natCast]
    exact ⟨_, _, v, rfl, p2, Or.inr ⟨rfl, by rw [ub_s]; exact p3⟩, p4, fun k hk2 => hk _ k (by rw [e2]; exact hk2)⟩
  · rw [p1, cbW_t, ckB_t (by omega), bs]
    exact ⟨_, _, v, rfl, p2, Or.inl rfl, p3, hk _⟩
theorem packed_with {σ τ : Blk} {B : Nat → Blk} {nb : Nat} {a : Int} (h : Rel σ B nb τ) (ha : 0 ≤ a ∧ a ≤ 16) (w : Int) : ∃ r B' τ', f_X4_tryPacking σ B nb a = some (r, σ, B', nb) ∧ (∀ k : Nat, (k : Int) ≠ σ 0 4 → B' k = B k) ∧ Rel σ B' nb τ' ∧ (τ' 1 2 = τ 1 2) ∧ ((r = 0 ∧ f_X5_packedWith τ a w = some (-5, τ')) ∨ (r = 1 ∧ ∃ v, f_X5_packedWith τ a w = some (v, τ') ∧ (w = 0 → f_X0_costInAll (B' (σ 0 4).toNat) = some v ∧ 0 ≤ v) ∧ (w = 1 → f_X3_pagesInUse (B' (σ 0 4).toNat) = some v) ∧ (w ≠ 0 → w ≠ 1 → f_X3_thingsInAll (B' (σ 0 4).toNat) 2 = some v))) := by
  obtain ⟨τ1, m1, m2, m3, -⟩ := x5_moves (σ := τ) (i1 := 1) (n1 := 763) (i3 := 2) (n3 := 763) (a2 := 0) (a4 := 0) 0 0 (by omega) (by omega) (by omega) (by omega) (by omega)
  obtain ⟨r, B', v, t1, t2, t3, t4, t5⟩ := try_pack (u := up2 τ1 1 0 a) h ha (fun j hj => by rw [up2_row, m2 1 (by omega)])
  have hy : (∀ c, 4 ≤ c ∧ c ≤ 7 → v c = τ c) ∧ v 0 4 = τ 0 4 ∧ v 0 8 = τ 0 8 ∧ (∀ j, j < 763 → v 2 j = τ 1 j) ∧ (TL τ → TL v) := by
    refine ⟨fun c hc => by rw [t4.1 c (by omega), up2_ne (by omega), m2 c (by omega)], by rw [t4.2.1, up2_ne (by omega), m2 0 (by omega)], by rw [t4.2.2.1, up2_ne (by omega), m2 0 (by omega)], fun j hj => ?_, fun z => t4.2.2.2 (TL.of (by rw [up2_ne (by omega), m2 8 (by omega)]) z)⟩
    have h1 := m3 j hj
    rw [Nat.zero_add] at h1
    rw [t4.1 2 (by omega), up2_ne (by omega), h1]
  have back : ∀ z, Fz v z → ∃ τ', f_X5_moves z 2 763 0 1 763 0 = some τ' ∧ Rel σ B' nb τ' ∧ τ' 1 2 = τ 1 2 := by
    intro z hz
    obtain ⟨τ', n1, n2, n3, -⟩ := x5_moves (σ := z) (i1 := 2) (n1 := 763) (i3 := 1) (n3 := 763) (a2 := 0) (a4 := 0) 0 0 (by omega) (by omega) (by omega) (by omega) (by omega)
    have n4 : ∀ j, j < 763 → τ' 1 j = τ 1 j := fun j hj => by
      have h1 := n3 j hj
      rw [Nat.zero_add] at h1
      rw [h1, hz.1 2 (by omega) (by omega)]
      exact hy.2.2.2.1 j hj
    refine ⟨τ', n1, (h.cB t5).cT n4 ⟨fun c hc => by rw [n2 c (by omega), hz.1 c (by omega) (by omega)]; exact hy.1 c hc, by rw [n2 0 (by omega), hz.2 4 (by omega)]; exact hy.2.1, by rw [n2 0 (by omega), hz.2 8 (by omega)]; exact hy.2.2.1, fun y => TL.of (by rw [n2 8 (by omega), hz.1 8 (by omega) (by omega)]) (hy.2.2.2.2 y)⟩, n4 2 (by omega)⟩
  have hpw : f_X5_packedWith τ a w = (if r ≠ 0 then (if w ≠ 0 then (if w ≠ 1 then Option.bind (f_X5_thingsOf v 2) fun r9 => Option.bind (f_X5_moves v 2 763 0 1 763 0) fun σ8 => some (r9, σ8) else Option.bind (f_X5_pagesWith v) fun r10 => Option.bind (f_X5_moves v 2 763 0 1 763 0) fun σ8 => some (r10, σ8)) else bd2 (f_X5_sumOfCosts v) fun r11 σ12 => Option.bind (f_X5_moves σ12 2 763 0 1 763 0) fun σ8 => some (r11, σ8)) else Option.bind (f_X5_moves v 2 763 0 1 763 0) fun σ8 => some ((-5), σ8)) := by
    unfold f_X5_packedWith
    rw [m1, bs, sw_t 0 (by omega) (by omega), bs, t2, bd2_t, jp_t]
  rcases t3 with rfl | ⟨rfl, hb⟩
  · obtain ⟨τ', k1, k2, k3⟩ := back v Fz.rf
    rw [hpw, if_neg (show ¬ ((0 : Int) ≠ 0) by decide), k1, bs]
    exact ⟨_, B', τ', t1, t5, k2, k3, Or.inl ⟨rfl, rfl⟩⟩
  · have hc := hb.1
    have hPG := hc.2.2.1
    rw [hpw, if_pos (show (1 : Int) ≠ 0 by decide)]
    by_cases w0 : w = 0
    · obtain ⟨z, z1, z2⟩ := x5_sumOfCosts hc
      obtain ⟨τ', k1, k2, k3⟩ := back z z2
      rw [if_neg (show ¬ w ≠ 0 by omega), z1, bd2_t, k1, bs]
      exact ⟨_, B', τ', t1, t5, k2, k3, Or.inr ⟨rfl, _, rfl, fun _ => ⟨x0_costInAll hc, sumN_nonneg (fun i hi => (hc.cs hi).1)⟩, fun z => absurd z (by omega), fun z => absurd w0 z⟩⟩
    · obtain ⟨τ', k1, k2, k3⟩ := back v Fz.rf
      rw [if_pos (show w ≠ 0 from w0)]
      by_cases w1 : w = 1
      · rw [if_neg (show ¬ w ≠ 1 by omega), x5_pagesWith, bs, k1, bs]
        exact ⟨_, B', τ', t1, t5, k2, k3, Or.inr ⟨rfl, _, rfl, fun z => absurd z w0, fun _ => x3_pagesInUse hPG, fun _ z => absurd w1 z⟩⟩
      · rw [if_pos (show w ≠ 1 from w1), x5_thingsOf hPG.1, bs, k1, bs]
        exact ⟨_, B', τ', t1, t5, k2, k3, Or.inr ⟨rfl, _, rfl, fun z => absurd z w0, fun z => absurd z w1, fun _ _ => x3_inAll hPG (by decide)⟩⟩
theorem ifPacked_ok {σ τ : Blk} {B : Nat → Blk} {nb : Nat} (h : Rel σ B nb τ) (a1 a2 : Int) : ∃ v σ' B' nb' τ', f_X4_ifPacked σ B nb a1 a2 = some (v, σ', B', nb') ∧ f_X5_ifPacked τ a1 a2 = some (v, τ') ∧ Rel σ' B' nb' τ' := by
  obtain ⟨q, t, e1, e2, e3, e4, e5⟩ := h.1.q
  unfold f_X4_ifPacked f_X5_ifPacked
  rw [x5_within, bs, x5_within, bs]
  by_cases g1 : a1 < 0
  · rw [if_pos g1, if_pos g1, if_pos rfl]
    exact ⟨_, _, _, _, _, rfl, rfl, h⟩
  rw [if_neg g1, if_neg g1]
  by_cases g2 : 16 < a1
  · rw [if_pos g2, if_pos g2, if_pos rfl]
    exact ⟨_, _, _, _, _, rfl, rfl, h⟩
  rw [if_neg g2, if_neg g2, if_neg (show ¬ ((1 : Int) = 0) by decide)]
  by_cases g3 : a2 < 0
  · rw [if_pos g3, if_pos g3, if_pos rfl]
    exact ⟨_, _, _, _, _, rfl, rfl, h⟩
  rw [if_neg g3, if_neg g3]
  by_cases g4 : a2 ≤ 2
  · obtain ⟨r, B', τ', t1, t2, t3, -, t4⟩ := packed_with h (a := a1) (by omega) a2
    rw [if_pos g4, if_neg (show ¬ 2 < a2 by omega), if_neg (show ¬ ((1 : Int) = 0) by decide), t1, bd4_t]
    rcases t4 with ⟨rfl, w1⟩ | ⟨rfl, v, w1, w2, w3, w4⟩
    · rw [if_neg (show ¬ ((0 : Int) ≠ 0) by decide), w1, bd2_t]
      exact ⟨_, _, _, _, _, rfl, rfl, t3⟩
    · rw [e2, Int.toNat_natCast] at w2 w3 w4
      rw [if_pos (show (1 : Int) ≠ 0 by decide), w1, bd2_t]
      by_cases f0 : a2 = 0
      · rw [if_neg (show ¬ a2 ≠ 0 by omega), gk_t e2 e4, (w2 f0).1, bs]
        exact ⟨_, _, _, _, _, rfl, rfl, t3⟩
      · rw [if_pos (show a2 ≠ 0 from f0)]
        by_cases f1 : a2 = 1
        · rw [if_neg (show ¬ a2 ≠ 1 by omega), gk_t e2 e4, w3 f1, bs]
          exact ⟨_, _, _, _, _, rfl, rfl, t3⟩
        · rw [if_pos (show a2 ≠ 1 from f1), gk_t e2 e4, w4 f0 f1, bs]
          exact ⟨_, _, _, _, _, rfl, rfl, t3⟩
  · rw [if_neg g4, if_pos (show 2 < a2 by omega), if_pos rfl]
    exact ⟨_, _, _, _, _, rfl, rfl, h⟩
