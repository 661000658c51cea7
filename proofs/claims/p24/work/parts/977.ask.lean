/-! PURE: what the class answers, in the reference's ints *)  -/
theorem trT {f g : Option (Int × Up)} (h : Le RT f g) {v : Int} {σ' : Blk} {B' : Nat → Blk} {nb' : Nat} (m : f = some (v, σ', B', nb')) : ∃ B0, g = some (v, σ', B0, nb') ∧ vb B0 = B' := by
  obtain ⟨⟨v0, σ0, B0, n0⟩, h1, h2, h3, h4, h5⟩ := h _ m
  dsimp only at h2 h3 h4 h5
  subst h2
  subst h3
  subst h5
  exact ⟨B0, h1, h4⟩
theorem trI {f g : Option Int} (h : LeI f g) {v : Int} (m : f = some v) : g = some v := by
  obtain ⟨y, h1, h2⟩ := h _ m
  rw [h1, h2]
section ASK
variable {σ τ : Blk} {B : Nat → Blk} {nb q : Nat}
theorem o_page (hq : σ 0 3 = (q : Int)) (hn : q < nb) (h : RB (vb B q) (τ 1)) {p : Nat} (hp : p < 10) : g_X4_page σ B nb p 0 = some (fr (τ 1) p) ∧ g_X4_page σ B nb p 1 = some (slT (τ 1) p : Int) ∧ g_X4_page σ B nb p 2 = some (onT (τ 1) p 1) ∧ g_X4_page σ B nb p 3 = some (onT (τ 1) p 2) ∧ g_X4_page σ B nb p 4 = some (onT (τ 1) p 3) ∧ g_X4_page σ B nb p 5 = some ((slT (τ 1) p : Int) - onT (τ 1) p 0) := by
  have hP := h.1.2.2.1
  refine ⟨trI b_page ?_, trI b_page ?_, trI b_page ?_, trI b_page ?_, trI b_page ?_, trI b_page ?_⟩ <;> unfold f_X4_page <;> simp only [gk_t hq hn] <;> rw [if_neg (by omega), if_pos (by omega)]
  · rw [if_pos trivial, ld_t p rfl hp, bs, (hP.f hp).1]
  · rw [if_neg (by decide), if_pos trivial, x3_slotsOf hP hp, bs]
  · rw [if_neg (by decide), if_neg (by decide), if_pos trivial, x3_thingsOn hP hp (by decide), bs]
  · rw [if_neg (by decide), if_neg (by decide), if_neg (by decide), if_pos trivial, x3_thingsOn hP hp (by decide), bs]
  · rw [if_neg (by decide), if_neg (by decide), if_neg (by decide), if_neg (by decide), if_pos trivial, x3_thingsOn hP hp (by decide), bs]
  · rw [if_neg (by decide), if_neg (by decide), if_neg (by decide), if_neg (by decide), if_neg (by decide), if_pos trivial, x3_emptyOn hP hp, bs]
theorem o_slot (hq : σ 0 3 = (q : Int)) (hn : q < nb) (h : RB (vb B q) (τ 1)) {p j : Nat} (hp : p < 10) (hj : j < slT (τ 1) p) (h0 : τ 1 (363 + (40 * p + j)) ≠ 0) : g_X4_slot σ B nb p j 0 = some (kd (τ 1 (363 + (40 * p + j)))) ∧ g_X4_slot σ B nb p j 1 = some (pt (τ 1) (rwo (τ 1 (363 + (40 * p + j)))).toNat 1) ∧ g_X4_slot σ B nb p j 2 = some (cl (τ 1 (363 + (40 * p + j)))) := by
  obtain ⟨⟨hS, hR, hP, hF, hL, hZ, hW⟩, hT⟩ := h
  have hsl := slT_le (τ 1) p
  have ht := hP.1 (40 * p + j) (by omega)
  have hpq := hP.2.1 (40 * p + j) (by omega)
  obtain ⟨r, hr, hi, hrw⟩ := hF.rowof (q := 40 * p + j) (by omega) h0
  refine ⟨trI b_slot ?_, trI b_slot ?_, trI b_slot ?_⟩ <;> unfold f_X4_slot <;> simp only [gk_t hq hn] <;> rw [if_neg (by omega), if_neg (by omega), if_neg (by omega), x3_slotsOf hP hp, bs, if_pos (by omega), ck_t (by omega), bs]
  · rw [if_pos trivial, ld_t (40 * p + j) (by omega) (by omega), bs, hpq.1]
  · rw [if_neg (by decide), if_pos trivial, ld_t (40 * p + j) (by omega) (by omega), bs, hpq.1, if_pos (show kd (τ 1 (363 + (40 * p + j))) ≠ 0 from fun z => h0 ((kd_0 ht).mp z)), ld_t (40 * p + j) (by omega) (by omega), bs, hpq.2.2 h0, hrw, Int.toNat_natCast, (hR.of hr hi).2.2.2]
  · rw [if_neg (by decide), if_neg (by decide), if_pos trivial, ld_t (40 * p + j) (by omega) (by omega), bs, hpq.2.1]
theorem o_slot_no (hq : σ 0 3 = (q : Int)) (hn : q < nb) (h : RB (vb B q) (τ 1)) {p : Nat} (hp : p < 10) : g_X4_slot σ B nb p (slT (τ 1) p : Int) 0 = some (-1) := by
  have hP := h.1.2.2.1
  refine trI b_slot ?_
  unfold f_X4_slot
  simp only [gk_t hq hn]
  rw [if_neg (by omega), if_neg (by omega), if_neg (by omega), x3_slotsOf hP hp, bs, if_neg (by omega)]
theorem o_row_no (hq : σ 0 3 = (q : Int)) (hn : q < nb) (h : RB (vb B q) (τ 1)) {a : Int} (hk : rk (vb B q) a = -1) (c : Int) : g_X4_row σ B nb a c = some (-1) := by
  refine trI b_row ?_
  unfold f_X4_row
  rw [gk_t hq hn, x0_rowOf h.1.2.1, bs, hk, if_neg (by decide)]
theorem o_row (hq : σ 0 3 = (q : Int)) (hn : q < nb) (h : RB (vb B q) (τ 1)) {a : Int} {r : Nat} (hr : r < 30) (hi : pt (τ 1) r 0 = 1) (hk : rk (vb B q) a = r) : g_X4_row σ B nb a 0 = some (pt (τ 1) r 2) ∧ g_X4_row σ B nb a 1 = some (pt (τ 1) r 3 / 40) ∧ g_X4_row σ B nb a 2 = some (pt (τ 1) r 3 % 40) ∧ g_X4_row σ B nb a 3 = some (pt (τ 1) r 4 / 40) ∧ g_X4_row σ B nb a 4 = some (pt (τ 1) r 4 % 40) ∧ g_X4_row σ B nb a 5 = some (if pt (τ 1) r 3 = pt (τ 1) r 4 then 0 else 1) ∧ g_X4_row σ B nb a 6 = some (lto (τ 1 (363 + (pt (τ 1) r 4).toNat))) ∧ g_X4_row σ B nb a 7 = some (vb B q 11 r) ∧ g_X4_row σ B nb a 8 = some (cst (vb B q) r) ∧ g_X4_row σ B nb a 9 = some (cellV (τ 1) (pt (τ 1) r 4) (pt (τ 1) r 3) (PP (vb B q) r) (vb B q 11 r).toNat) := by
  obtain ⟨⟨hS, hR, hP, hF, hL, hZ, hW⟩, hT⟩ := h
  obtain ⟨h8, h8r, -, h34⟩ := hL r hr hi
  have h3 := (h34 hi).1
  have h4 := (h34 hi).2
  obtain ⟨⟨l0, o1, o2, o3⟩, o4, o5, o6, o7, o8⟩ := hF.own hr hi
  have hm0 := mk_dec (k := 1) (r := (r : Int)) (n := 0) (l := l0) (by omega) (by omega) (by omega) (by omega)
  have hc0 := mk_cl1 (r := (r : Int)) (n := 0) (l := l0) (by omega) (by omega) (by omega)
  have hth : τ 1 (363 + (vb B q 10 r).toNat) = mk 1 r 0 l0 := o3
  rw [h3, h4]
  refine ⟨trI b_row ?_, trI b_row ?_, trI b_row ?_, trI b_row ?_, trI b_row ?_, trI b_row ?_, trI b_row ?_, trI b_row ?_, trI b_row ?_, trI b_row ?_⟩ <;> unfold f_X4_row <;> simp only [gk_t hq hn] <;> rw [x0_rowOf hR, bs, hk, if_pos (by omega)]
  · rw [if_pos trivial, ld_t r rfl hr, bs, h8]
  · rw [if_neg (by decide), if_pos trivial, ld_t r rfl hr, bs, dv_t (by omega), bs]
  · rw [if_neg (by decide), if_neg (by decide), if_pos trivial, ld_t r rfl hr, bs, rm_t (by omega), bs]
  · rw [if_neg (by decide), if_neg (by decide), if_neg (by decide), if_pos trivial, ld_t r rfl hr, bs, dv_t (by omega), bs]
  · rw [if_neg (by decide), if_neg (by decide), if_neg (by decide), if_neg (by decide), if_pos trivial, ld_t r rfl hr, bs, rm_t (by omega), bs]
  · rw [if_neg (by decide), if_neg (by decide), if_neg (by decide), if_neg (by decide), if_neg (by decide), if_pos trivial, x0_hasMoved hr, bs]
    by_cases e : vb B q 10 r = vb B q 9 r
    · rw [if_pos e, if_pos e.symm, if_pos rfl]
    · rw [if_neg e, if_neg (show ¬ vb B q 9 r = vb B q 10 r from fun z => e z.symm), if_neg (show ¬ ((1 : Int) = 0) by decide)]
  · rw [if_neg (by decide), if_neg (by decide), if_neg (by decide), if_neg (by decide), if_neg (by decide), if_neg (by decide), if_pos trivial, ld_t r rfl hr, bs, ld_t (vb B q 10 r).toNat (by omega) (by omega), bs, (hP.2.1 _ (by omega)).2.1, hth, hc0, ck_t (by omega), bs, hm0.2.2.2.1]
    congr 1
    omega
  · rw [if_neg (by decide), if_neg (by decide), if_neg (by decide), if_neg (by decide), if_neg (by decide), if_neg (by decide), if_neg (by decide), if_pos trivial, ld_t r rfl hr, bs]
  · rw [if_neg (by decide), if_neg (by decide), if_neg (by decide), if_neg (by decide), if_neg (by decide), if_neg (by decide), if_neg (by decide), if_neg (by decide), if_pos trivial, x0_costOf hF hr hi, bs]
    rfl
  · rw [if_neg (by decide), if_neg (by decide), if_neg (by decide), if_neg (by decide), if_neg (by decide), if_neg (by decide), if_neg (by decide), if_neg (by decide), if_neg (by decide), if_pos trivial, x0_cellsOf hP hF hr hi, bs]
    rfl
theorem o_letter (hq : σ 0 3 = (q : Int)) (hn : q < nb) (h : RB (vb B q) (τ 1)) {a : Int} {r : Nat} (hr : r < 30) (hi : pt (τ 1) r 0 = 1) (hk : rk (vb B q) a = r) : (∀ k : Nat, (k : Int) < pt (τ 1) r 2 → g_X4_letter σ B nb a k = some (lt (τ 1) r k)) ∧ g_X4_letter σ B nb a (pt (τ 1) r 2) = some (-1) := by
  obtain ⟨⟨hS, hR, hP, hF, hL, hZ, hW⟩, hT⟩ := h
  obtain ⟨h8, h8r, -, -⟩ := hL r hr hi
  refine ⟨fun k hk2 => trI b_letter ?_, trI b_letter ?_⟩ <;> unfold f_X4_letter <;> simp only [gk_t hq hn] <;> rw [x0_rowOf hR, bs, hk, if_neg (by omega), if_neg (by omega), ld_t r rfl hr, bs, h8]
  · rw [if_pos hk2, gd_t (by omega) (by omega), Int.toNat_natCast, ld_t k rfl (by omega), bs, hT r hr hi k hk2]
  · rw [if_neg (by omega)]
theorem o_piece (hq : σ 0 3 = (q : Int)) (hn : q < nb) (h : RB (vb B q) (τ 1)) {a : Int} {r : Nat} (hr : r < 30) (hi : pt (τ 1) r 0 = 1) (hk : rk (vb B q) a = r) : (∀ k : Nat, (k : Int) < vb B q 11 r → g_X4_piece σ B nb a k 0 = some (PP (vb B q) r k / 40) ∧ g_X4_piece σ B nb a k 1 = some (PP (vb B q) r k % 40) ∧ g_X4_piece σ B nb a k 2 = some (lto (τ 1 (363 + (PP (vb B q) r k).toNat)))) ∧ g_X4_piece σ B nb a (vb B q 11 r) 0 = some (-1) := by
  obtain ⟨⟨hS, hR, hP, hF, hL, hZ, hW⟩, hT⟩ := h
  obtain ⟨-, o4, o5, o6, o7, o8⟩ := hF.own hr hi
  refine ⟨fun k hk2 => ?_, trI b_piece ?_⟩
  · obtain ⟨p1, l, p2, p3, p4⟩ := o8 k hk2
    have hp1 : 0 ≤ vb B q (13 + r) k ∧ vb B q (13 + r) k < 400 := p1
    have hp4 : τ 1 (363 + (vb B q (13 + r) k).toNat) = mk 2 r k l := p4
    have hm := mk_dec (k := 2) (r := (r : Int)) (n := (k : Int)) (l := l) (by omega) (by omega) (by omega) (by omega)
    have hmc := mk_cl2 (r := (r : Int)) (n := (k : Int)) (l := l) (by omega) (by omega) (by omega)
    have hpp : PP (vb B q) r k = vb B q (13 + r) k := rfl
    rw [hpp]
    refine ⟨trI b_piece ?_, trI b_piece ?_, trI b_piece ?_⟩ <;> unfold f_X4_piece <;> simp only [gk_t hq hn] <;> rw [x0_rowOf hR, bs, hk, if_neg (by omega), if_neg (by omega), ld_t r rfl hr, bs, if_pos hk2, gd_t (by omega) (by omega), Int.toNat_natCast, ld_t k rfl (by omega), bs]
    · rw [if_pos trivial, dv_t (by omega), bs]
    · rw [if_neg (by decide), if_pos trivial, rm_t (by omega), bs]
    · rw [if_neg (by decide), if_neg (by decide), if_pos trivial, ld_t (vb B q (13 + r) k).toNat (by omega) (by omega), bs, (hP.2.1 _ (by omega)).2.1, hp4, hmc, ck_t (by omega), bs, hm.2.2.2.1]
      congr 1
      omega
  · unfold f_X4_piece
    simp only [gk_t hq hn]
    rw [x0_rowOf hR, bs, hk, if_neg (by omega), if_neg (by omega), ld_t r rfl hr, bs, if_neg (by omega)]
theorem o_count (hq : σ 0 3 = (q : Int)) (hn : q < nb) (h : RB (vb B q) (τ 1)) : g_X4_count σ B nb 0 = some (τ 1 2) ∧ g_X4_count σ B nb 1 = some (sumN (fun p => if (slT (τ 1) p : Int) ≤ 0 then 0 else 1) 10) ∧ g_X4_count σ B nb 2 = some (sumN (fun p => onT (τ 1) p 3) 10) ∧ g_X4_count σ B nb 3 = some (sumN (fun p => onT (τ 1) p 2) 10) ∧ g_X4_count σ B nb 4 = some (sumN (fun p => fr (τ 1) p) 10) ∧ g_X4_count σ B nb 5 = some (sumN (cs (vb B q) (τ 1)) 30) ∧ g_X4_count σ B nb 6 = some (sumN (fun r => pt (τ 1) r 2) 30) ∧ g_X4_count σ B nb 7 = some (if τ 1 2 ≠ 0 then gm (cst (vb B q)) (fun r => pt (τ 1) r 0 = 1) 0 30 else -6) ∧ g_X4_count σ B nb 8 = some (τ 1 0) ∧ g_X4_count σ B nb 9 = some (τ 1 1) := by
  have hB := h.1
  obtain ⟨⟨hS, hR, hP, hF, hL, hZ, hW⟩, hT⟩ := h
  obtain ⟨⟨s0, -⟩, ⟨s1, -⟩, s2⟩ := hS
  refine ⟨trI b_count ?_, trI b_count ?_, trI b_count ?_, trI b_count ?_, trI b_count ?_, trI b_count ?_, trI b_count ?_, trI b_count ?_, trI b_count ?_, trI b_count ?_⟩ <;> unfold f_X4_count <;> simp only [gk_t hq hn]
  · rw [if_pos trivial, s2]
  · rw [if_neg (by decide), if_pos trivial, x3_pagesInUse hP, bs]
  · rw [if_neg (by decide), if_neg (by decide), if_pos trivial, x3_inAll hP (by decide), bs]
  · rw [if_neg (by decide), if_neg (by decide), if_neg (by decide), if_pos trivial, x3_inAll hP (by decide), bs]
  · rw [if_neg (by decide), if_neg (by decide), if_neg (by decide), if_neg (by decide), if_pos trivial, x3_freeInAll hP, bs]
  · rw [if_neg (by decide), if_neg (by decide), if_neg (by decide), if_neg (by decide), if_neg (by decide), if_pos trivial, x0_costInAll hB, bs]
  · rw [if_neg (by decide), if_neg (by decide), if_neg (by decide), if_neg (by decide), if_neg (by decide), if_neg (by decide), if_pos trivial, x0_letters hB, bs]
  · rw [if_neg (by decide), if_neg (by decide), if_neg (by decide), if_neg (by decide), if_neg (by decide), if_neg (by decide), if_neg (by decide), if_pos trivial, s2]
    by_cases e : τ 1 2 = 0
    · rw [if_neg (fun z => z e), if_neg (fun z => z e)]
    · rw [if_pos e, if_pos e, x0_greatest hB, bs]
  · rw [if_neg (by decide), if_neg (by decide), if_neg (by decide), if_neg (by decide), if_neg (by decide), if_neg (by decide), if_neg (by decide), if_neg (by decide), if_pos trivial, s0]
  · rw [if_neg (by decide), if_neg (by decide), if_neg (by decide), if_neg (by decide), if_neg (by decide), if_neg (by decide), if_neg (by decide), if_neg (by decide), if_neg (by decide), if_pos trivial, s1]
theorem o_key (hq : σ 0 3 = (q : Int)) (hn : q < nb) (h : RB (vb B q) (τ 1)) : (∀ k, k < 100 → vb B q 6 k ≠ -1 → g_X4_key σ B nb (kc (vb B q) k) = some (k : Int)) ∧ g_X4_key σ B nb (kc (vb B q) 100) = some (-1) := by
  obtain ⟨⟨hS, hR, hP, hF, hL, hZ, hW⟩, hT⟩ := h
  have hst : ∀ (a1 : Int) (n x : Nat), x < 100 → (vb B q 6 x = -1 ∨ kc (vb B q) x ≠ a1) → f_X4_key_L4 σ (vb B) nb a1 (n + 1) (kc (vb B q) x) (x : Int) = f_X4_key_L4 σ (vb B) nb a1 n (kc (vb B q) (x + 1)) ((x + 1 : Nat) : Int) := by
    intro a1 n x hx ho
    have h2 := kc_rng (vb B q) x
    rw [f_X4_key_L4, if_neg (by omega), gk_t hq hn, x0_rowOf hR, bs, rk_nat hx]
    dsimp only [jp]
    rw [kc_s]
    by_cases e : vb B q 6 x = -1
    · rw [if_pos e, ck_t (by omega), bs, if_pos e, Int.add_zero]
      rfl
    · rw [if_neg e, if_pos (show kc (vb B q) x ≠ a1 by rcases ho with z | z; exact absurd z e; exact z), ck_t (by omega), bs, ck_t (by omega), bs, if_neg e]
      rfl
  refine ⟨fun k hk h6 => trI b_key ?_, trI b_key ?_⟩
  · unfold f_X4_key
    refine loopUp (F := fun n (x : Nat) => f_X4_key_L4 σ (vb B) nb (kc (vb B q) k) n (kc (vb B q) x) (x : Int)) (R := some (k : Int)) k (fun n x hx => hst _ n x (by omega) ?_) (fun n => ?_) fu 0 (by omega) (fu_lt (by omega))
    · by_cases e : vb B q 6 x = -1
      · exact .inl e
      · refine .inr ?_
        have h1 := kc_mono (vb B q) (show x + 1 ≤ k by omega)
        rw [kc_s, if_neg e] at h1
        omega
    · show f_X4_key_L4 _ _ _ _ _ _ _ = _
      rw [f_X4_key_L4, if_neg (by omega), gk_t hq hn, x0_rowOf hR, bs, rk_nat hk]
      dsimp only [jp]
      rw [if_neg h6, if_neg (by omega)]
  · unfold f_X4_key
    refine loopUp (F := fun n (x : Nat) => f_X4_key_L4 σ (vb B) nb (kc (vb B q) 100) n (kc (vb B q) x) (x : Int)) (R := some (-1)) 100 (fun n x hx => hst _ n x hx ?_) (fun n => ?_) fu 0 (by omega) (fu_lt (by omega))
    · by_cases e : vb B q 6 x = -1
      · exact .inl e
      · refine .inr ?_
        have h1 := kc_mono (vb B q) (show x + 1 ≤ 100 by omega)
        rw [kc_s, if_neg e] at h1
        omega
    · show f_X4_key_L4 _ _ _ _ _ _ _ = _
      rw [f_X4_key_L4, if_pos (by omega)]
end ASK
