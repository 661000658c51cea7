/-! PURE: the law, call by call *)  -/
theorem law_step {xs : Nat → Int32} {L k : Nat} {σ τ : Blk} {B : Nat → Blk} {nb : Nat} (h : Rel σ B nb τ) (hk : 4 * k + 4 ≤ L) (hL : L ≤ 2048) {n : Nat} (ih : ∀ (σ : Blk) (B : Nat → Blk) (nb : Nat) (τ : Blk), Rel σ B nb τ → f_law xs L n (((4 * k + 4 : Nat)) : Int) σ B nb τ = some 1) : f_law xs L (n + 1) ((4 * k : Nat) : Int) σ B nb τ = some 1 := by
  obtain ⟨q, t, e1, e2, e3, e4, e5⟩ := h.1.q
  have hB := h.2.1
  rw [e1, Int.toNat_natCast] at hB
  have x1 : ish xs L (((4 * k : Nat) : Int) + 1) = some (xs (4 * k + 1)).toInt := ish_t (4 * k + 1) (by omega) (by omega)
  have x2 : ish xs L (((4 * k : Nat) : Int) + 2) = some (xs (4 * k + 2)).toInt := ish_t (4 * k + 2) (by omega) (by omega)
  have x3 : ish xs L (((4 * k : Nat) : Int) + 3) = some (xs (4 * k + 3)).toInt := ish_t (4 * k + 3) (by omega) (by omega)
  rw [f_law, ck_t (a := (L : Int) - 4) (by omega), bs, if_neg (by omega), ish_t (4 * k) rfl (by omega), bs]
  refine jp_any (Q := fun o => o = some 1) (fun K => ∀ (σ : Blk) (B : Nat → Blk) (nb : Nat) (τ : Blk), Rel σ B nb τ → K σ B nb τ = some 1) (fun σ B nb τ h2 => ?_) (fun j hj => ?_)
  · rw [ck_t (by omega), bs]
    exact ih σ B nb τ h2
  generalize iand (xs (4 * k)).toInt 31 = c
  generalize (xs (4 * k + 1)).toInt = y1 at *
  generalize (xs (4 * k + 2)).toInt = y2 at *
  generalize (xs (4 * k + 3)).toInt = y3 at *
  show (if c = 0 then _ else _) = some 1
  by_cases c0 : c = 0
  · obtain ⟨v, σ', B', nb', τ', m1, m2, m3⟩ := set_ok h y1 y2
    rw [if_pos c0, x1, x2, bs, bs, m1, bd4_t, bs, bs, m2, bd2_t, if_pos rfl]
    exact hj _ _ _ _ m3
  rw [if_neg c0]
  by_cases c1 : c = 1
  · obtain ⟨v, σ', B', nb', τ', m1, m2, m3⟩ := write_ok h
    rw [if_pos c1, m1, bd4_t, m2, bd2_t, if_pos rfl]
    exact hj _ _ _ _ m3
  rw [if_neg c1]
  by_cases c2 : c = 2
  · obtain ⟨v, σ', B', nb', τ', m1, m2, m3⟩ := append_ok h y1 y2
    rw [if_pos c2, x1, x2, bs, bs, m1, bd4_t, bs, bs, m2, bd2_t, if_pos rfl]
    exact hj _ _ _ _ m3
  rw [if_neg c2]
  by_cases c3 : c = 3
  · obtain ⟨v, σ', B', nb', τ', m1, m2, m3⟩ := delete_ok h y1
    rw [if_pos c3, x1, bs, m1, bd4_t, bs, m2, bd2_t, if_pos rfl]
    exact hj _ _ _ _ m3
  rw [if_neg c3]
  by_cases c4 : c = 4
  · obtain ⟨v, σ', B', nb', τ', m1, m2, m3⟩ := pack_ok h
    rw [if_pos c4, m1, bd4_t, m2, bd2_t, if_pos rfl]
    exact hj _ _ _ _ m3
  rw [if_neg c4]
  by_cases c5 : c = 5
  · obtain ⟨v, τ', m1, m2, m3⟩ := q_row e1 e3 hB y1 y2
    rw [if_pos c5, x1, x2, bs, bs, m1, bs, bs, bs, m2, bd2_t, if_pos rfl]
    exact hj _ _ _ _ (h.fz m3)
  rw [if_neg c5]
  by_cases c6 : c = 6
  · obtain ⟨v, m1, m2⟩ := q_letter e1 e3 hB y1 y2
    rw [if_pos c6, x1, x2, bs, bs, m1, bs, bs, bs, m2, bs, if_pos rfl]
    exact hj _ _ _ _ h
  rw [if_neg c6]
  by_cases c7 : c = 7
  · obtain ⟨v, τ', m1, m2, m3⟩ := q_piece e1 e3 hB y1 y2 y3
    rw [if_pos c7, x1, x2, x3, bs, bs, bs, m1, bs, bs, bs, bs, m2, bd2_t, if_pos rfl]
    exact hj _ _ _ _ (h.fz m3)
  rw [if_neg c7]
  by_cases c8 : c = 8
  · obtain ⟨v, m1, m2⟩ := q_page e1 e3 hB y1 y2
    rw [if_pos c8, x1, x2, bs, bs, m1, bs, bs, bs, m2, bs, if_pos rfl]
    exact hj _ _ _ _ h
  rw [if_neg c8]
  by_cases c9 : c = 9
  · obtain ⟨v, m1, m2⟩ := q_slot e1 e3 hB y1 y2 y3
    rw [if_pos c9, x1, x2, x3, bs, bs, bs, m1, bs, bs, bs, bs, m2, bs, if_pos rfl]
    exact hj _ _ _ _ h
  rw [if_neg c9]
  by_cases c10 : c = 10
  · obtain ⟨v, τ', m1, m2, m3⟩ := q_count e1 e3 hB h.2.2.2.2.1 h.2.2.1.1 y1
    rw [if_pos c10, x1, bs, m1, bs, bs, m2, bd2_t, if_pos rfl]
    exact hj _ _ _ _ (h.fz m3)
  rw [if_neg c10]
  by_cases c11 : c = 11
  · obtain ⟨v, m1, m2⟩ := q_key e1 e3 hB y1
    rw [if_pos c11, x1, bs, m1, bs, bs, m2, bs, if_pos rfl]
    exact hj _ _ _ _ h
  rw [if_neg c11]
  by_cases c12 : c = 12
  · obtain ⟨v, σ', B', nb', τ', m1, m2, m3⟩ := ifPacked_ok h y1 y2
    rw [if_pos c12, x1, x2, bs, bs, m1, bd4_t, bs, bs, m2, bd2_t, if_pos rfl]
    exact hj _ _ _ _ m3
  rw [if_neg c12]
  by_cases c13 : c = 13
  · obtain ⟨v, σ', B', nb', τ', m1, m2, m3⟩ := bestHead_ok h
    rw [if_pos c13, m1, bd4_t, m2, bd2_t, if_pos rfl]
    exact hj _ _ _ _ m3
  rw [if_neg c13]
  by_cases c14 : c = 14
  · obtain ⟨v, σ', B', nb', τ', m1, m2, m3⟩ := most_ok h y1
    rw [if_pos c14, x1, bs, m1, bd4_t, bs, m2, bd2_t, if_pos rfl]
    exact hj _ _ _ _ m3
  rw [if_neg c14]
  by_cases c15 : c = 15
  · obtain ⟨v, σ', B', nb', τ', m1, m2, m3⟩ := put_ok h (lshl (i2l y1) 32 ||| (i2l y2 &&& (4294967295 : Int64)))
    rw [if_pos c15, x1, x2, bs, bs, m1, bd4_t, bs, bs, m2, bd2_t, if_pos rfl]
    exact hj _ _ _ _ m3
  rw [if_neg c15]
  by_cases c16 : c = 16
  · obtain ⟨v, σ', B', nb', τ', m1, m2, m3⟩ := wipe_ok h
    rw [if_pos c16, m1, bd4_t, m2, bd2_t, if_pos rfl]
    exact hj _ _ _ _ m3
  rw [if_neg c16]
  by_cases c17 : c = 17
  · obtain ⟨v, σ', B', nb', m1, m2, m3⟩ := fault_ok h
    rw [if_pos c17, m1, bd4_t, m2, bs, if_pos rfl]
    exact hj _ _ _ _ m3
  rw [if_neg c17]
  by_cases c18 : c = 18
  · obtain ⟨v, σ', B', nb', τ', m1, m2, m3⟩ := undo_ok h
    rw [if_pos c18, m1, bd4_t, m2, bd2_t, if_pos rfl]
    exact hj _ _ _ _ m3
  rw [if_neg c18]
  by_cases c19 : c = 19
  · obtain ⟨v, σ', B', nb', τ', m1, m2, m3⟩ := save_ok h y1
    rw [if_pos c19, x1, bs, m1, bd4_t, bs, m2, bd2_t, if_pos rfl]
    exact hj _ _ _ _ m3
  rw [if_neg c19]
  by_cases c20 : c = 20
  · obtain ⟨v, σ', B', nb', τ', m1, m2, m3⟩ := restore_ok h y1
    rw [if_pos c20, x1, bs, m1, bd4_t, bs, m2, bd2_t, if_pos rfl]
    exact hj _ _ _ _ m3
  rw [if_neg c20]
  exact hj _ _ _ _ h
theorem law_loop {xs : Nat → Int32} {L : Nat} (hL : L ≤ 2048) : ∀ (n k : Nat) (σ : Blk) (B : Nat → Blk) (nb : Nat) (τ : Blk), 4 * k ≤ 2048 → 600 ≤ n + k → Rel σ B nb τ → f_law xs L n ((4 * k : Nat) : Int) σ B nb τ = some 1 := by
  intro n
  induction n with
  | zero => intro k σ B nb τ h1 h2; omega
  | succ n ih =>
    intro k σ B nb τ h1 h2 h
    by_cases e : 4 * k + 4 ≤ L
    · exact law_step h e hL (fun σ B nb τ h3 => ih (k + 1) σ B nb τ (by omega) (by omega) h3)
    · rw [f_law, ck_t (a := (L : Int) - 4) (by omega), bs, if_pos (by omega)]
theorem main_true (xs : Nat → Int32) {L : Nat} (hL : L ≤ 2048) : f_main xs L = some 1 := by
  obtain ⟨z, τ, z1, z2, z3⟩ := rel_start
  unfold f_main
  rw [z1, bs, z2, bs]
  exact law_loop hL 600 0 z.1 (Bst z) 2 τ (by omega) (by omega) z3
