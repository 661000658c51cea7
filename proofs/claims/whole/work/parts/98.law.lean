/-! PURE: the law, call by call *)  -/
theorem trT {f g : Option (Int × Up)} (h : Le RT f g) {v : Int} {σ' : Blk} {B' : Nat → Blk} {nb' : Nat} (m : f = some (v, σ', B', nb')) : ∃ B0, g = some (v, σ', B0, nb') ∧ vb B0 = B' := by
  obtain ⟨⟨v0, σ0, B0, n0⟩, h1, h2, h3, h4, h5⟩ := h _ m
  dsimp only at h2 h3 h4 h5
  subst h2
  subst h3
  subst h5
  exact ⟨B0, h1, h4⟩
theorem trI {f g : Option Int} (h : LeI f g) {v : Int} (m : f = some v) : g = some v := by
  obtain ⟨y, h1, h2⟩ := h _ m
  rw [h1, h2]
theorem law_step {xs : Nat → Int32} {L k : Nat} {σ τ : Blk} {B : Nat → Blk} {nb : Nat} (h : Rel σ (vb B) nb τ) (hk : 4 * k + 4 ≤ L) (hL : L ≤ 2048) {n : Nat} (ih : ∀ (σ : Blk) (B : Nat → Blk) (nb : Nat) (τ : Blk), Rel σ (vb B) nb τ → g_law xs L n (((4 * k + 4 : Nat)) : Int) σ B nb τ = some 1) : g_law xs L (n + 1) ((4 * k : Nat) : Int) σ B nb τ = some 1 := by
  obtain ⟨q, t, e1, e2, e3, e4, e5⟩ := h.1.q
  have hB := h.2.1
  rw [e1, Int.toNat_natCast] at hB
  have x1 : ish xs L (((4 * k : Nat) : Int) + 1) = some (xs (4 * k + 1)).toInt := ish_t (4 * k + 1) (by omega) (by omega)
  have x2 : ish xs L (((4 * k : Nat) : Int) + 2) = some (xs (4 * k + 2)).toInt := ish_t (4 * k + 2) (by omega) (by omega)
  have x3 : ish xs L (((4 * k : Nat) : Int) + 3) = some (xs (4 * k + 3)).toInt := ish_t (4 * k + 3) (by omega) (by omega)
  rw [g_law, ck_t (a := (L : Int) - 4) (by omega), bs, if_neg (by omega), ish_t (4 * k) rfl (by omega), bs]
  refine jp_any (Q := fun o => o = some 1) (fun K => ∀ (σ : Blk) (B : Nat → Blk) (nb : Nat) (τ : Blk), Rel σ (vb B) nb τ → K σ B nb τ = some 1) (fun σ B nb τ h2 => ?_) (fun j hj => ?_)
  · rw [ck_t (by omega), bs]
    exact ih σ B nb τ h2
  generalize iand (xs (4 * k)).toInt 31 = c
  generalize (xs (4 * k + 1)).toInt = y1 at *
  generalize (xs (4 * k + 2)).toInt = y2 at *
  generalize (xs (4 * k + 3)).toInt = y3 at *
  show (if c = 0 then _ else _) = some 1
  by_cases c0 : c = 0
  · obtain ⟨v, σ', B'', nb', τ', m1', m2, m3⟩ := set_ok h y1 y2
    obtain ⟨B', m1, rfl⟩ := trT b_set m1'
    rw [if_pos c0, x1, x2, bs, bs, m1, bd4_t, bs, bs, m2, bd2_t, if_pos rfl]
    exact hj _ _ _ _ m3
  rw [if_neg c0]
  by_cases c1 : c = 1
  · obtain ⟨v, σ', B'', nb', τ', m1', m2, m3⟩ := write_ok h
    obtain ⟨B', m1, rfl⟩ := trT b_write m1'
    rw [if_pos c1, m1, bd4_t, m2, bd2_t, if_pos rfl]
    exact hj _ _ _ _ m3
  rw [if_neg c1]
  by_cases c2 : c = 2
  · obtain ⟨v, σ', B'', nb', τ', m1', m2, m3⟩ := append_ok h y1 y2
    obtain ⟨B', m1, rfl⟩ := trT b_append m1'
    rw [if_pos c2, x1, x2, bs, bs, m1, bd4_t, bs, bs, m2, bd2_t, if_pos rfl]
    exact hj _ _ _ _ m3
  rw [if_neg c2]
  by_cases c3 : c = 3
  · obtain ⟨v, σ', B'', nb', τ', m1', m2, m3⟩ := delete_ok h y1
    obtain ⟨B', m1, rfl⟩ := trT b_delete m1'
    rw [if_pos c3, x1, bs, m1, bd4_t, bs, m2, bd2_t, if_pos rfl]
    exact hj _ _ _ _ m3
  rw [if_neg c3]
  by_cases c4 : c = 4
  · obtain ⟨v, σ', B'', nb', τ', m1', m2, m3⟩ := pack_ok h
    obtain ⟨B', m1, rfl⟩ := trT b_pack m1'
    rw [if_pos c4, m1, bd4_t, m2, bd2_t, if_pos rfl]
    exact hj _ _ _ _ m3
  rw [if_neg c4]
  by_cases c5 : c = 5
  · obtain ⟨v, τ', m1', m2, m3⟩ := q_row e1 e3 hB y1 y2
    have m1 := trI b_row m1'
    rw [if_pos c5, x1, x2, bs, bs, m1, bs, bs, bs, m2, bd2_t, if_pos rfl]
    exact hj _ _ _ _ (h.fz m3)
  rw [if_neg c5]
  by_cases c6 : c = 6
  · obtain ⟨v, m1', m2⟩ := q_letter e1 e3 hB y1 y2
    have m1 := trI b_letter m1'
    rw [if_pos c6, x1, x2, bs, bs, m1, bs, bs, bs, m2, bs, if_pos rfl]
    exact hj _ _ _ _ h
  rw [if_neg c6]
  by_cases c7 : c = 7
  · obtain ⟨v, τ', m1', m2, m3⟩ := q_piece e1 e3 hB y1 y2 y3
    have m1 := trI b_piece m1'
    rw [if_pos c7, x1, x2, x3, bs, bs, bs, m1, bs, bs, bs, bs, m2, bd2_t, if_pos rfl]
    exact hj _ _ _ _ (h.fz m3)
  rw [if_neg c7]
  by_cases c8 : c = 8
  · obtain ⟨v, m1', m2⟩ := q_page e1 e3 hB y1 y2
    have m1 := trI b_page m1'
    rw [if_pos c8, x1, x2, bs, bs, m1, bs, bs, bs, m2, bs, if_pos rfl]
    exact hj _ _ _ _ h
  rw [if_neg c8]
  by_cases c9 : c = 9
  · obtain ⟨v, m1', m2⟩ := q_slot e1 e3 hB y1 y2 y3
    have m1 := trI b_slot m1'
    rw [if_pos c9, x1, x2, x3, bs, bs, bs, m1, bs, bs, bs, bs, m2, bs, if_pos rfl]
    exact hj _ _ _ _ h
  rw [if_neg c9]
  by_cases c10 : c = 10
  · obtain ⟨v, τ', m1', m2, m3⟩ := q_count e1 e3 hB h.2.2.2.2.1 h.2.2.1.1 y1
    have m1 := trI b_count m1'
    rw [if_pos c10, x1, bs, m1, bs, bs, m2, bd2_t, if_pos rfl]
    exact hj _ _ _ _ (h.fz m3)
  rw [if_neg c10]
  by_cases c11 : c = 11
  · obtain ⟨v, m1', m2⟩ := q_key e1 e3 hB y1
    have m1 := trI b_key m1'
    rw [if_pos c11, x1, bs, m1, bs, bs, m2, bs, if_pos rfl]
    exact hj _ _ _ _ h
  rw [if_neg c11]
  by_cases c12 : c = 12
  · obtain ⟨v, σ', B'', nb', τ', m1', m2, m3⟩ := ifPacked_ok h y1 y2
    obtain ⟨B', m1, rfl⟩ := trT b_ifPacked m1'
    rw [if_pos c12, x1, x2, bs, bs, m1, bd4_t, bs, bs, m2, bd2_t, if_pos rfl]
    exact hj _ _ _ _ m3
  rw [if_neg c12]
  by_cases c13 : c = 13
  · obtain ⟨v, σ', B'', nb', τ', m1', m2, m3⟩ := bestHead_ok h
    obtain ⟨B', m1, rfl⟩ := trT b_bestHead m1'
    rw [if_pos c13, m1, bd4_t, m2, bd2_t, if_pos rfl]
    exact hj _ _ _ _ m3
  rw [if_neg c13]
  by_cases c14 : c = 14
  · obtain ⟨v, σ', B'', nb', τ', m1', m2, m3⟩ := most_ok h y1
    obtain ⟨B', m1, rfl⟩ := trT b_most m1'
    rw [if_pos c14, x1, bs, m1, bd4_t, bs, m2, bd2_t, if_pos rfl]
    exact hj _ _ _ _ m3
  rw [if_neg c14]
  by_cases c15 : c = 15
  · obtain ⟨v, σ', B'', nb', τ', m1', m2, m3⟩ := put_ok h (lshl (i2l y1) 32 ||| (i2l y2 &&& (4294967295 : Int64)))
    obtain ⟨B', m1, rfl⟩ := trT b_put m1'
    rw [if_pos c15, x1, x2, bs, bs, m1, bd4_t, bs, bs, m2, bd2_t, if_pos rfl]
    exact hj _ _ _ _ m3
  rw [if_neg c15]
  by_cases c16 : c = 16
  · obtain ⟨v, σ', B'', nb', τ', m1', m2, m3⟩ := wipe_ok h
    obtain ⟨B', m1, rfl⟩ := trT b_wipe m1'
    rw [if_pos c16, m1, bd4_t, m2, bd2_t, if_pos rfl]
    exact hj _ _ _ _ m3
  rw [if_neg c16]
  by_cases c17 : c = 17
  · obtain ⟨v, σ', B'', nb', m1', m2, m3⟩ := fault_ok h
    obtain ⟨B', m1, rfl⟩ := trT b_fault m1'
    rw [if_pos c17, m1, bd4_t, m2, bs, if_pos rfl]
    exact hj _ _ _ _ m3
  rw [if_neg c17]
  by_cases c18 : c = 18
  · obtain ⟨v, σ', B'', nb', τ', m1', m2, m3⟩ := undo_ok h
    obtain ⟨B', m1, rfl⟩ := trT b_undo m1'
    rw [if_pos c18, m1, bd4_t, m2, bd2_t, if_pos rfl]
    exact hj _ _ _ _ m3
  rw [if_neg c18]
  by_cases c19 : c = 19
  · obtain ⟨v, σ', B'', nb', τ', m1', m2, m3⟩ := save_ok h y1
    obtain ⟨B', m1, rfl⟩ := trT b_save m1'
    rw [if_pos c19, x1, bs, m1, bd4_t, bs, m2, bd2_t, if_pos rfl]
    exact hj _ _ _ _ m3
  rw [if_neg c19]
  by_cases c20 : c = 20
  · obtain ⟨v, σ', B'', nb', τ', m1', m2, m3⟩ := restore_ok h y1
    obtain ⟨B', m1, rfl⟩ := trT b_restore m1'
    rw [if_pos c20, x1, bs, m1, bd4_t, bs, m2, bd2_t, if_pos rfl]
    exact hj _ _ _ _ m3
  rw [if_neg c20]
  exact hj _ _ _ _ h
theorem law_loop {xs : Nat → Int32} {L : Nat} (hL : L ≤ 2048) : ∀ (n k : Nat) (σ : Blk) (B : Nat → Blk) (nb : Nat) (τ : Blk), 4 * k ≤ 2048 → 600 ≤ n + k → Rel σ (vb B) nb τ → g_law xs L n ((4 * k : Nat) : Int) σ B nb τ = some 1 := by
  intro n
  induction n with
  | zero => intro k σ B nb τ h1 h2; omega
  | succ n ih =>
    intro k σ B nb τ h1 h2 h
    by_cases e : 4 * k + 4 ≤ L
    · exact law_step h e hL (fun σ B nb τ h3 => ih (k + 1) σ B nb τ (by omega) (by omega) h3)
    · rw [g_law, ck_t (a := (L : Int) - 4) (by omega), bs, if_pos (by omega)]
theorem vb_Bst {z : Blk × Blk × Blk} : vb (Bst z) = Bst (z.1, VW z.2.1, VW z.2.2) := by
  funext k
  unfold vb Bst
  by_cases e : k = 0
  · rw [if_pos e, if_pos e]
  · rw [if_neg e, if_neg e]
theorem init_both {z : Blk × Blk × Blk} (h : f_X4_init = some z) : ∃ y : Blk × Blk × Blk, g_X4_init = some y ∧ z = (y.1, VW y.2.1, VW y.2.2) := by
  have hh : f_X4_init = Option.bind f_X0_init fun β1 => Option.bind f_X0_init fun β2 => some (iniX (fun _ _ => 0) iniH, β1, β2) := rfl
  have hg : g_X4_init = Option.bind g_X0_init fun β1 => Option.bind g_X0_init fun β2 => some (iniX (fun _ _ => 0) iniH, β1, β2) := rfl
  rw [hh] at h
  obtain ⟨β1, h1, h2⟩ := Option.bind_eq_some_iff.mp h
  unfold f_X0_init at h1 h2
  obtain ⟨β, h3, h4⟩ := Option.bind_eq_some_iff.mp h1
  rw [h3, bs, bs] at h2
  refine ⟨(iniX (fun _ _ => 0) iniH, β, β), ?_, ?_⟩
  · rw [hg, h3, bs, bs]
  · rw [← Option.some.inj h2, ← Option.some.inj h4]
theorem main_true (xs : Nat → Int32) {L : Nat} (hL : L ≤ 2048) : g_main xs L = some 1 := by
  obtain ⟨z, τ, z1, z2, z3⟩ := rel_start
  obtain ⟨y, y1, y2⟩ := init_both z1
  rw [y2, ← vb_Bst] at z3
  unfold g_main
  rw [y1, bs, z2, bs]
  exact law_loop hL 600 0 y.1 (Bst y) 2 τ (by omega) (by omega) z3
