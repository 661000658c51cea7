/-! PURE: a row's things all dropped: by the law, and by the reference *)  -/
def clr (s : Nat → Int) (r : Nat) : Nat → Int := fun j => if rwo (s j) = r then 0 else s j
theorem clr_0 {s : Nat → Int} {r j : Nat} (h : s j = 0) : clr s r j = 0 := by
  unfold clr
  rw [h]
  split <;> rfl
theorem clr_s {s : Nat → Int} {r j : Nat} (h : rwo (s j) = r) : clr s r j = 0 := if_pos h
theorem clr_n {s : Nat → Int} {r j : Nat} (h : rwo (s j) ≠ r) : clr s r j = s j := if_neg h
theorem Wg_clr {g : Int → Int} (g0 : g 0 = 0) {s : Nat → Int} {r x : Nat} : Wg g (clr s r) x = if x = r then 0 else Wg g s x := by
  by_cases e : x = r
  · subst e
    rw [if_pos rfl]
    unfold Wg
    rw [sumN_congr (g := fun _ => 0) (fun p hp => ?_), sumN_const]
    · simp
    · show (if rwo (clr s x (363 + p)) = x then g (clr s x (363 + p)) else 0) = 0
      by_cases e2 : rwo (s (363 + p)) = x
      · rw [clr_s e2, g0]
        split <;> rfl
      · rw [clr_n e2, if_neg e2]
  · rw [if_neg e]
    refine sumN_congr (fun p hp => ?_)
    show (if rwo (clr s r (363 + p)) = x then g (clr s r (363 + p)) else 0) = if rwo (s (363 + p)) = x then g (s (363 + p)) else 0
    by_cases e2 : rwo (s (363 + p)) = r
    · rw [clr_s e2, g0, if_neg (show ¬ rwo (s (363 + p)) = x by omega)]
      split <;> rfl
    · rw [clr_n e2]
theorem law_dels {σ : Blk} {B : Nat → Blk} {nb r : Nat} {tot : Int} (hr : r < 6) (ht : tot ≤ 1000) (j : Int → Blk → (Nat → Blk) → Nat → Blk → Option Int) : ∀ (x m n : Nat) (fd : Int) (T : Blk) (s : Nat → Int), x ≤ n → x < m → TT T 0 2 s n → TK s → 0 ≤ fd → (∀ i, x ≤ i → i < n → T 2 i / 2048 % 8 ≠ r) → fd + Wg cl s r = tot → ∃ n' T', g_L_law_L653 r j m fd ((x : Int) - 1) σ B nb T = j tot σ B nb T' ∧ TT T' 0 2 (clr s r) n' ∧ (∀ c, c ≠ 0 → c ≠ 2 → T' c = T c) ∧ ∀ k, k ≠ 3 → T' 0 k = T 0 k := by
  intro x
  induction x with
  | zero =>
    intro m n fd T s hx hm h hT h0 hno hw
    obtain ⟨m, rfl⟩ : ∃ z, m = z + 1 := ⟨m - 1, by omega⟩
    have hz : ∀ p, p < 400 → s (363 + p) ≠ 0 → rwo (s (363 + p)) ≠ r := fun p hp hs hrw => by
      obtain ⟨i, i1, i2⟩ := h.2.2.2 p hp hs
      obtain ⟨b, b1, b2, b3, b4, b5, b6, -⟩ := h.mvs i1
      have e : b = p := by omega
      subst e
      exact hno i (by omega) i1 (by omega)
    have hw0 : Wg cl s r = 0 := Wg_none cl_0 hz
    refine ⟨n, T, ?_, h.congr rfl (fun _ _ => rfl) (fun p hp => ?_), fun _ _ _ => rfl, fun _ _ => rfl⟩
    · rw [g_L_law_L653, if_pos (by omega), show fd = tot by omega]
    · by_cases e : s (363 + p) = 0
      · rw [clr_0 e, e]
      · exact clr_n (hz p hp e)
  | succ x ih =>
    intro m n fd T s hx hm h hT h0 hno hw
    obtain ⟨m, rfl⟩ : ∃ z, m = z + 1 := ⟨m - 1, by omega⟩
    obtain ⟨⟨v1, v2⟩, v3, v4⟩ := h.2.1 x (by omega)
    obtain ⟨b, b1, b2, b3, b4, b5, b6, b7⟩ := h.mvs (show x < n by omega)
    have hh : (if iand (ishr (T 2 x) 11) 7 = (r : Int) then True else False) ↔ T 2 x / 2048 % 8 = r := by
      rw [ishr11 v1 (by omega), iand7 (by omega) (by omega)]
      split <;> simp_all
    have hia : iand (ishr (T 2 x) 11) 7 = T 2 x / 2048 % 8 := by rw [ishr11 v1 (by omega), iand7 (by omega) (by omega)]
    have hn64 := h.1.2
    by_cases e : T 2 x / 2048 % 8 = r
    · have hcr := cl_rng (hT b b1)
      obtain ⟨n1, T1, d1, d2, d3, d4, d5, d6⟩ := h.drop (by omega) (show x < n by omega) b2
      have hW : Wg cl (us s (363 + b) 0) r = Wg cl s r - cl (s (363 + b)) := by
        rw [Wg_us b1, wv_0 cl_0]
        unfold wv
        rw [if_pos (by omega)]
        omega
      have hnn : 0 ≤ Wg cl (us s (363 + b) 0) r := Wg_nn (fun p hp => (cl_rng ((hT.us (Or.inl rfl)) p hp)).1)
      obtain ⟨n', T', w1, w2, w3, w4⟩ := ih m n1 (fd + cl (s (363 + b))) T1 (us s (363 + b) 0) (by omega) (by omega) d3 (hT.us (Or.inl rfl)) (by omega) (fun i i1 i2 => by
        rw [d6 i i2]
        split
        · exact hno n1 (by omega) (by omega)
        · exact hno i (by omega) (by omega)) (by omega)
      refine ⟨n', T', ?_, w2.congr rfl (fun _ _ => rfl) (fun p hp => ?_), fun c c1 c2 => (w3 c c1 c2).trans (d4 c c1 c2), fun k hk => (w4 k hk).trans (d5 k hk)⟩
      · rw [g_L_law_L653, if_neg (by omega), if_neg (by omega), ld_t x (by omega) (by omega), bs, jp_t, hia, if_pos e, bs, l_cells ⟨v1, v2⟩ v3, bs, ← b3, ck_t (by omega), bs, show ((x + 1 : Nat) : Int) - 1 = (x : Int) by omega, d2, bs]
        dsimp only
        rw [show (x : Int) + -1 = (x : Int) - 1 by omega, ck_t (by omega), bs]
        exact w1
      · by_cases e2 : p = b
        · subst e2
          rw [clr_s (show rwo (s (363 + p)) = r by omega), clr_0 us_s]
        · unfold clr
          rw [us_n (by omega)]
    · obtain ⟨n', T', w1, w2, w3, w4⟩ := ih m n fd T s (by omega) (by omega) h hT h0 (fun i i1 i2 => by
        by_cases e2 : i = x
        · rw [e2]
          exact e
        · exact hno i (by omega) i2) hw
      refine ⟨n', T', ?_, w2, w3, w4⟩
      rw [g_L_law_L653, if_neg (by omega), if_neg (by omega), ld_t x (by omega) (by omega), bs, jp_t, hia, if_neg e]
      dsimp only
      rw [show ((x + 1 : Nat) : Int) - 1 + -1 = (x : Int) - 1 by omega, ck_t (by omega), bs]
      exact w1
