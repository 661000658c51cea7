/-! PURE: the questions: row, letter, piece, page, slot *)  -/
theorem gk_t {α : Type} {a : Int} {nb q : Nat} {K : Nat → Option α} (h : a = (q : Int)) (hq : q < nb) : gk a nb K = K q := by
  unfold gk
  rw [if_pos (by omega), h, Int.toNat_natCast]
theorem q_row {σ τ : Blk} {B : Nat → Blk} {nb q : Nat} (hq : σ 0 3 = (q : Int)) (hn : q < nb) (h : RB (B q) (τ 1)) (a1 a2 : Int) : ∃ v τ', f_X4_row σ B nb a1 a2 = some v ∧ f_X5_row τ a1 a2 = some (v, τ') ∧ Fz τ τ' := by
  obtain ⟨⟨hS, hR, hP, hF, hL, hZ, hW⟩, hT⟩ := h
  unfold f_X4_row f_X5_row
  simp only [gk_t hq hn]
  rw [x0_rowOf hR, bs, x5_rowWith hR, bs]
  rcases hR.key a1 with hk | ⟨r, hr, hk, hi, hka, h7⟩
  · rw [hk, if_neg (by decide), if_pos rfl, if_neg (by decide)]
    exact ⟨_, _, rfl, rfl, Fz.rf⟩
  · have hl := hL r hr hi
    obtain ⟨h8, h8r, -, h34⟩ := hl
    have h3 := (h34 hi).1
    have h4 := (h34 hi).2
    obtain ⟨⟨l0, o1, o2, o3⟩, o4, o5, o6, o7, o8⟩ := hF.own hr hi
    have hm0 := mk_dec (k := 1) (r := (r : Int)) (n := 0) (l := l0) (by omega) (by omega) (by omega) (by omega)
    have hc0 := mk_cl1 (r := (r : Int)) (n := 0) (l := l0) (by omega) (by omega) (by omega)
    rw [hk, if_pos (show (r : Int) ≠ -1 by omega), if_neg (show ¬ (r : Int) = -1 by omega), if_pos (show (r : Int) ≠ -6 by omega)]
    by_cases e0 : a2 = 0
    · rw [if_pos e0, if_pos e0, ld_t r rfl hr, bs, x5_part r 2 rfl (by omega) hr (by omega), bs, h8]
      exact ⟨_, _, rfl, rfl, Fz.rf⟩
    rw [if_neg e0, if_neg e0]
    by_cases e1 : a2 = 1
    · rw [if_pos e1, if_pos e1, ld_t r rfl hr, bs, x5_part r 3 rfl (by omega) hr (by omega), bs, h3, dv_t (by omega), bs, bs]
      exact ⟨_, _, rfl, rfl, Fz.rf⟩
    rw [if_neg e1, if_neg e1]
    by_cases e2 : a2 = 2
    · rw [if_pos e2, if_pos e2, ld_t r rfl hr, bs, x5_part r 3 rfl (by omega) hr (by omega), bs, h3, rm_t (by omega), bs, bs]
      exact ⟨_, _, rfl, rfl, Fz.rf⟩
    rw [if_neg e2, if_neg e2]
    by_cases e3 : a2 = 3
    · rw [if_pos e3, if_pos e3, ld_t r rfl hr, bs, x5_part r 4 rfl (by omega) hr (by omega), bs, h4, dv_t (by omega), bs, bs]
      exact ⟨_, _, rfl, rfl, Fz.rf⟩
    rw [if_neg e3, if_neg e3]
    by_cases e4 : a2 = 4
    · rw [if_pos e4, if_pos e4, ld_t r rfl hr, bs, x5_part r 4 rfl (by omega) hr (by omega), bs, h4, rm_t (by omega), bs, bs]
      exact ⟨_, _, rfl, rfl, Fz.rf⟩
    rw [if_neg e4, if_neg e4]
    by_cases e5 : a2 = 5
    · rw [if_pos e5, if_pos e5, x0_hasMoved hr, bs, x5_hasMoved hr, bs, h3, h4]
      by_cases e : B q 10 r = B q 9 r
      · rw [if_pos e, if_pos e.symm, if_pos rfl]
        exact ⟨_, _, rfl, rfl, Fz.rf⟩
      · rw [if_neg e, if_neg (show ¬ B q 9 r = B q 10 r from fun z => e z.symm), if_neg (show ¬ ((1 : Int) = 0) by decide)]
        exact ⟨_, _, rfl, rfl, Fz.rf⟩
    rw [if_neg e5, if_neg e5]
    by_cases e6 : a2 = 6
    · have hth : τ 1 (363 + (B q 10 r).toNat) = mk 1 r 0 l0 := o3
      rw [if_pos e6, if_pos e6, ld_t r rfl hr, bs, ld_t (B q 10 r).toNat (by omega) (by omega), bs, (hP.2.1 _ (by omega)).2.1, hth, hc0, ck_t (by omega), bs]
      unfold f_X5_headOf
      rw [x5_part r 4 rfl (by omega) hr (by omega), bs, h4, ld_t (363 + (B q 10 r).toNat) (by omega) (by omega), bs, bs, hth, x5_letters hm0.2.2.2.2.1, bs, hm0.2.2.2.1]
      exact ⟨_, _, rfl, by rw [show 2 + l0 - 2 = l0 by omega], Fz.rf⟩
    rw [if_neg e6, if_neg e6]
    by_cases e7 : a2 = 7
    · obtain ⟨u, u1, u2, u3, -⟩ := x5_findPieces hP.1 hF hr hi
      rw [if_pos e7, if_pos e7, ld_t r rfl hr, bs, u1, bs, u3]
      exact ⟨_, _, rfl, rfl, u2⟩
    rw [if_neg e7, if_neg e7]
    by_cases e8 : a2 = 8
    · obtain ⟨u, u1, u2⟩ := x5_costOf hP.1 hF hr hi h3 h4
      rw [if_pos e8, if_pos e8, x0_costOf hF hr hi, bs, u1, bd2_t]
      exact ⟨_, _, rfl, rfl, u2⟩
    rw [if_neg e8, if_neg e8]
    by_cases e9 : a2 = 9
    · obtain ⟨u, u1, u2⟩ := x5_cellsOfRow hP.1 hF hr hi h3 h4
      rw [if_pos e9, if_pos e9, x0_cellsOf hP hF hr hi, bs, u1, bd2_t]
      exact ⟨_, _, rfl, rfl, u2⟩
    rw [if_neg e9, if_neg e9]
    exact ⟨_, _, rfl, rfl, Fz.rf⟩
theorem x5_within {a b c : Int} : f_X5_within a b c = some (if a < b then 0 else if c < a then 0 else 1) := by
  unfold f_X5_within
  split
  · rfl
  · split <;> rfl
theorem q_letter {σ τ : Blk} {B : Nat → Blk} {nb q : Nat} (hq : σ 0 3 = (q : Int)) (hn : q < nb) (h : RB (B q) (τ 1)) (a1 a2 : Int) : ∃ v, f_X4_letter σ B nb a1 a2 = some v ∧ f_X5_letter τ a1 a2 = some v := by
  obtain ⟨⟨hS, hR, hP, hF, hL, hZ, hW⟩, hT⟩ := h
  unfold f_X4_letter f_X5_letter
  simp only [gk_t hq hn]
  rw [x0_rowOf hR, bs, x5_rowWith hR, bs]
  rcases hR.key a1 with hk | ⟨r, hr, hk, hi, hka, h7⟩
  · rw [hk, if_pos rfl, if_pos rfl]
    exact ⟨_, rfl, rfl⟩
  · obtain ⟨h8, h8r, hlr, h34⟩ := hL r hr hi
    rw [hk, if_neg (show ¬ (r : Int) = -1 by omega), if_neg (show ¬ (r : Int) = -1 by omega), if_neg (show ¬ (r : Int) = -6 by omega), x5_part r 2 rfl (by omega) hr (by omega), bs, ck_t (by omega), bs, x5_within, bs]
    by_cases e1 : a2 < 0
    · rw [if_pos e1, if_pos e1, if_pos rfl]
      exact ⟨_, rfl, rfl⟩
    · rw [if_neg e1, if_neg e1, ld_t r rfl hr, bs, h8]
      by_cases e2 : a2 < pt (τ 1) r 2
      · obtain ⟨k, hk2⟩ : ∃ k : Nat, a2 = k := ⟨a2.toNat, by omega⟩
        rw [if_pos e2, if_neg (show ¬ pt (τ 1) r 2 - 1 < a2 by omega), if_neg (show ¬ ((1 : Int) = 0) by decide), gd_t (by omega) (by omega), Int.toNat_natCast, ld_t k hk2 (by omega), bs, x5_letterAt hr (by omega) hk2 hlr, bs, hT r hr hi k (by omega)]
        exact ⟨_, rfl, rfl⟩
      · rw [if_neg e2, if_pos (show pt (τ 1) r 2 - 1 < a2 by omega), if_pos rfl]
        exact ⟨_, rfl, rfl⟩
theorem q_piece {σ τ : Blk} {B : Nat → Blk} {nb q : Nat} (hq : σ 0 3 = (q : Int)) (hn : q < nb) (h : RB (B q) (τ 1)) (a1 a2 a3 : Int) : ∃ v τ', f_X4_piece σ B nb a1 a2 a3 = some v ∧ f_X5_piece τ a1 a2 a3 = some (v, τ') ∧ Fz τ τ' := by
  obtain ⟨⟨hS, hR, hP, hF, hL, hZ, hW⟩, hT⟩ := h
  unfold f_X4_piece f_X5_piece
  simp only [gk_t hq hn]
  rw [x0_rowOf hR, bs, x5_rowWith hR, bs]
  rcases hR.key a1 with hk | ⟨r, hr, hk, hi, hka, h7⟩
  · rw [hk, if_pos rfl, if_neg (by decide)]
    exact ⟨_, _, rfl, rfl, Fz.rf⟩
  · obtain ⟨u, u1, u2, u3, u4⟩ := x5_findPieces hP.1 hF hr hi
    have eu : u 1 = τ 1 := u2.1 1 (by omega) (by omega)
    obtain ⟨-, o4, o5, o6, o7, o8⟩ := hF.own hr hi
    rw [hk, if_neg (show ¬ (r : Int) = -1 by omega), if_neg (show ¬ (r : Int) = -1 by omega), if_pos (show (r : Int) ≠ -6 by omega), u1, bs, u3, ck_t (by omega), bs, x5_within, bs]
    by_cases e1 : a2 < 0
    · rw [if_pos e1, if_pos e1, if_neg (by decide)]
      exact ⟨_, _, rfl, rfl, u2⟩
    · rw [if_neg e1, if_neg e1, ld_t r rfl hr, bs]
      by_cases e2 : a2 < B q 11 r
      · obtain ⟨k, hk2⟩ : ∃ k : Nat, a2 = k := ⟨a2.toNat, by omega⟩
        obtain ⟨p1, l, p2, p3, p4⟩ := o8 k (by omega)
        have hp1 : 0 ≤ B q (13 + r) k ∧ B q (13 + r) k < 400 := p1
        have hp4 : τ 1 (363 + (B q (13 + r) k).toNat) = mk 2 r k l := p4
        have hu4 : u 9 k = B q (13 + r) k := u4 k (by omega)
        have hm := mk_dec (k := 2) (r := (r : Int)) (n := (k : Int)) (l := l) (by omega) (by omega) (by omega) (by omega)
        have hmc := mk_cl2 (r := (r : Int)) (n := (k : Int)) (l := l) (by omega) (by omega) (by omega)
        rw [if_pos e2, if_neg (show ¬ B q 11 r - 1 < a2 by omega), if_pos (show (1 : Int) ≠ 0 by decide), gd_t (by omega) (by omega), Int.toNat_natCast, ld_t k hk2 (by omega), bs, ld_t k hk2 (by omega), bs, bs, bs, hu4]
        by_cases f0 : a3 = 0
        · rw [if_pos f0, if_pos f0, dv_t (by omega), bs, bs]
          exact ⟨_, _, rfl, rfl, u2⟩
        rw [if_neg f0, if_neg f0]
        by_cases f1 : a3 = 1
        · rw [if_pos f1, if_pos f1, rm_t (by omega), bs, bs]
          exact ⟨_, _, rfl, rfl, u2⟩
        rw [if_neg f1, if_neg f1]
        by_cases f2 : a3 = 2
        · rw [if_pos f2, if_pos f2, ld_t (B q (13 + r) k).toNat (by omega) (by omega), bs, (hP.2.1 _ (by omega)).2.1, hp4, hmc, ck_t (by omega), bs, ld_t (363 + (B q (13 + r) k).toNat) (by omega) (by omega), bs, eu, hp4, x5_letters hm.2.2.2.2.1, bs, hm.2.2.2.1]
          exact ⟨_, _, rfl, by rw [show 1 + l - 1 = l by omega], u2⟩
        rw [if_neg f2, if_neg f2]
        exact ⟨_, _, rfl, rfl, u2⟩
      · rw [if_neg e2, if_pos (show B q 11 r - 1 < a2 by omega), if_neg (by decide)]
        exact ⟨_, _, rfl, rfl, u2⟩
theorem q_page {σ τ : Blk} {B : Nat → Blk} {nb q : Nat} (hq : σ 0 3 = (q : Int)) (hn : q < nb) (h : RB (B q) (τ 1)) (a1 a2 : Int) : ∃ v, f_X4_page σ B nb a1 a2 = some v ∧ f_X5_page τ a1 a2 = some v := by
  obtain ⟨⟨hS, hR, hP, hF, hL, hZ, hW⟩, hT⟩ := h
  unfold f_X4_page f_X5_page
  simp only [gk_t hq hn]
  rw [x5_within, bs]
  by_cases e1 : a1 < 0
  · rw [if_pos e1, if_pos e1, if_neg (by decide)]
    exact ⟨_, rfl, rfl⟩
  rw [if_neg e1, if_neg e1]
  by_cases e2 : a1 < 10
  · obtain ⟨p, hp⟩ : ∃ p : Nat, a1 = p := ⟨a1.toNat, by omega⟩
    subst hp
    have hp10 : p < 10 := by omega
    rw [if_pos e2, if_neg (show ¬ (9 : Int) < (p : Int) by omega), if_pos (show (1 : Int) ≠ 0 by decide)]
    by_cases f0 : a2 = 0
    · rw [if_pos f0, if_pos f0, ld_t p rfl hp10, bs, x5_free hP.1 hp10, bs, (hP.f hp10).1]
      exact ⟨_, rfl, rfl⟩
    rw [if_neg f0, if_neg f0]
    by_cases f1 : a2 = 1
    · rw [if_pos f1, if_pos f1, x3_slotsOf hP hp10, bs, x5_slots hp10, bs]
      exact ⟨_, rfl, rfl⟩
    rw [if_neg f1, if_neg f1]
    by_cases f2 : a2 = 2
    · rw [if_pos f2, if_pos f2, x3_thingsOn hP hp10 (by decide), bs, x5_on hP.1 hp10, bs]
      exact ⟨_, rfl, rfl⟩
    rw [if_neg f2, if_neg f2]
    by_cases f3 : a2 = 3
    · rw [if_pos f3, if_pos f3, x3_thingsOn hP hp10 (by decide), bs, x5_on hP.1 hp10, bs]
      exact ⟨_, rfl, rfl⟩
    rw [if_neg f3, if_neg f3]
    by_cases f4 : a2 = 4
    · rw [if_pos f4, if_pos f4, x3_thingsOn hP hp10 (by decide), bs, x5_on hP.1 hp10, bs]
      exact ⟨_, rfl, rfl⟩
    rw [if_neg f4, if_neg f4]
    by_cases f5 : a2 = 5
    · have h1 := onT_rng (τ 1) p 0
      have h2 := slT_le (τ 1) p
      rw [if_pos f5, if_pos f5, x3_emptyOn hP hp10, bs, x5_slots hp10, bs, x5_on hP.1 hp10, bs, ck_t (by omega), bs]
      exact ⟨_, rfl, rfl⟩
    rw [if_neg f5, if_neg f5]
    exact ⟨_, rfl, rfl⟩
  · rw [if_neg e2, if_pos (show (9 : Int) < a1 by omega), if_neg (by decide)]
    exact ⟨_, rfl, rfl⟩
theorem q_slot {σ τ : Blk} {B : Nat → Blk} {nb q : Nat} (hq : σ 0 3 = (q : Int)) (hn : q < nb) (h : RB (B q) (τ 1)) (a1 a2 a3 : Int) : ∃ v, f_X4_slot σ B nb a1 a2 a3 = some v ∧ f_X5_slot τ a1 a2 a3 = some v := by
  obtain ⟨⟨hS, hR, hP, hF, hL, hZ, hW⟩, hT⟩ := h
  unfold f_X4_slot f_X5_slot
  simp only [gk_t hq hn]
  rw [x5_within, bs]
  by_cases e1 : a1 < 0
  · rw [if_pos e1, if_pos e1, if_pos rfl]
    exact ⟨_, rfl, rfl⟩
  rw [if_neg e1, if_neg e1]
  by_cases e2 : 10 ≤ a1
  · rw [if_pos e2, if_pos (show (9 : Int) < a1 by omega), if_pos rfl]
    exact ⟨_, rfl, rfl⟩
  obtain ⟨p, hp⟩ : ∃ p : Nat, a1 = p := ⟨a1.toNat, by omega⟩
  subst hp
  have hp10 : p < 10 := by omega
  have hsl := slT_le (τ 1) p
  rw [if_neg e2, if_neg (show ¬ (9 : Int) < (p : Int) by omega), if_neg (show ¬ ((1 : Int) = 0) by decide), x5_slots hp10, bs, ck_t (a := (slT (τ 1) p : Int) - 1) (by omega), bs, x5_within, bs]
  by_cases e3 : a2 < 0
  · rw [if_pos e3, if_pos e3, if_neg (by decide)]
    exact ⟨_, rfl, rfl⟩
  rw [if_neg e3, if_neg e3, x3_slotsOf hP hp10, bs]
  by_cases e4 : a2 < (slT (τ 1) p : Int)
  · obtain ⟨j, hj⟩ : ∃ j : Nat, a2 = j := ⟨a2.toNat, by omega⟩
    subst hj
    have ht := hP.1 (40 * p + j) (by omega)
    have hpq := hP.2.1 (40 * p + j) (by omega)
    rw [if_pos e4, if_neg (show ¬ (slT (τ 1) p : Int) - 1 < (j : Int) by omega), if_pos (show (1 : Int) ≠ 0 by decide), ck_t (by omega), bs, ld_t (σ := τ) (c := 1) (n := 763) (363 + (40 * p + j)) (by omega) (by omega), bs]
    by_cases f0 : a3 = 0
    · rw [if_pos f0, if_pos f0, ld_t (40 * p + j) (by omega) (by omega), bs, x5_kind ht, bs, hpq.1]
      exact ⟨_, rfl, rfl⟩
    rw [if_neg f0, if_neg f0]
    by_cases f1 : a3 = 1
    · rw [if_pos f1, if_pos f1, ld_t (40 * p + j) (by omega) (by omega), bs, hpq.1]
      by_cases e5 : τ 1 (363 + (40 * p + j)) = 0
      · rw [if_neg (show ¬ kd (τ 1 (363 + (40 * p + j))) ≠ 0 from fun z => z ((kd_0 ht).mpr e5)), if_neg (show ¬ τ 1 (363 + (40 * p + j)) ≠ 0 from fun z => z e5)]
        exact ⟨_, rfl, rfl⟩
      · obtain ⟨r, hr, hi, hrw⟩ := hF.rowof (q := 40 * p + j) (by omega) e5
        rw [if_pos (show kd (τ 1 (363 + (40 * p + j))) ≠ 0 from fun z => e5 ((kd_0 ht).mp z)), if_pos e5, ld_t (40 * p + j) (by omega) (by omega), bs, x5_row ht, bs, hrw, x5_part r 1 rfl (by omega) hr (by omega), bs, hpq.2.2 e5, hrw, Int.toNat_natCast, (hR.of hr hi).2.2.2]
        exact ⟨_, rfl, rfl⟩
    rw [if_neg f1, if_neg f1]
    by_cases f2 : a3 = 2
    · rw [if_pos f2, if_pos f2, ld_t (40 * p + j) (by omega) (by omega), bs, x5_cells ht, bs, hpq.2.1]
      exact ⟨_, rfl, rfl⟩
    rw [if_neg f2, if_neg f2]
    exact ⟨_, rfl, rfl⟩
  · rw [if_neg e4, if_pos (show (slT (τ 1) p : Int) - 1 < a2 by omega), if_neg (by decide)]
    exact ⟨_, rfl, rfl⟩
