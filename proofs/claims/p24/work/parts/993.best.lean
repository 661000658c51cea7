/-! PURE: bestHead: the reference's answer is the law's *)  -/
def AS (C : Nat → Int) (i : Nat) (b c : Int) : Prop := (b = -6 ∧ i = 0) ∨ ∃ y : Nat, b = y ∧ y < 2 * i ∧ y % 2 = 0 ∧ c = C y ∧ ∀ z, z < 2 * i → z % 2 = 0 → C y ≤ C z ∧ (z < y → C y < C z)
theorem best_ref {C P K : Nat → Int} {s : Nat → Int} (hH : ∀ x, x ≤ 16 → ∀ τ : Blk, (∀ j, j < 763 → τ 1 j = s j) → REFH s τ x (C x) (P x) (K x)) (hl : 0 < s 2) : ∀ (d i m : Nat) (b c : Int) (τ : Blk), i + d = 9 → d < m → (∀ j, j < 763 → τ 1 j = s j) → AS C i b c → ∃ b' c' τ', f_X5_bestHead_L7 m b c ((2 * i : Nat) : Int) τ = some (b', τ') ∧ (∀ j, j < 763 → τ' 1 j = s j) ∧ AS C 9 b' c' := by
  intro d
  induction d with
  | zero =>
    intro i m b c τ hi hm hs h
    obtain ⟨m, rfl⟩ : ∃ z, m = z + 1 := ⟨m - 1, by omega⟩
    have e : i = 9 := by omega
    subst e
    refine ⟨b, c, τ, ?_, hs, h⟩
    rw [f_X5_bestHead_L7, if_pos (by omega)]
  | succ d ih =>
    intro i m b c τ hi hm hs h
    obtain ⟨m, rfl⟩ : ∃ z, m = z + 1 := ⟨m - 1, by omega⟩
    obtain ⟨h0, h1⟩ := hH (2 * i) (by omega) τ hs
    obtain ⟨τ2, a1, a2⟩ := h1 0
    rw [if_pos rfl] at a1
    have hk : ((2 * i : Nat) : Int) + 2 = ((2 * (i + 1) : Nat) : Int) := by omega
    rw [f_X5_bestHead_L7, if_neg (by omega), ld_t 2 (by omega) (by omega), bs, hs 2 (by omega), if_neg (by omega), a1, bd2_t, jp_t, if_neg (by omega)]
    dsimp only
    rw [hk]
    have hnew : (b = -6 ∨ ¬ c ≤ C (2 * i)) → AS C (i + 1) ((2 * i : Nat) : Int) (C (2 * i)) := fun hb => Or.inr ⟨2 * i, rfl, by omega, by omega, rfl, fun z z1 z2 => by
      by_cases e : z = 2 * i
      · rw [e]
        exact ⟨Int.le_refl _, fun _ => by omega⟩
      · rcases h with ⟨h2, h3⟩ | ⟨y, h2, h3, h4, h5, h6⟩
        · omega
        · have := h6 z (by omega) z2
          omega⟩
    have hold : ¬ b = -6 → c ≤ C (2 * i) → AS C (i + 1) b c := fun hb hc => by
      rcases h with ⟨h2, h3⟩ | ⟨y, h2, h3, h4, h5, h6⟩
      · omega
      · refine Or.inr ⟨y, h2, by omega, h4, h5, fun z z1 z2 => ?_⟩
        by_cases e : z = 2 * i
        · rw [e]
          exact ⟨by omega, fun _ => by omega⟩
        · exact h6 z (by omega) z2
    by_cases e1 : b = -6
    · rw [if_pos e1, jp_t, if_neg (by decide)]
      dsimp only
      rw [jp_t, if_neg (by decide)]
      dsimp only
      rw [ck_t (by omega), bs]
      exact ih (i + 1) m _ _ τ2 (by omega) (by omega) a2 (hnew (Or.inl e1))
    rw [if_neg e1]
    by_cases e2 : c ≤ C (2 * i)
    · rw [if_pos e2, jp_t, if_pos rfl]
      dsimp only
      rw [jp_t, if_pos rfl]
      dsimp only
      rw [ck_t (by omega), bs]
      exact ih (i + 1) m _ _ τ2 (by omega) (by omega) a2 (hold e1 e2)
    · rw [if_neg e2, jp_t, if_neg (by decide)]
      dsimp only
      rw [jp_t, if_neg (by decide)]
      dsimp only
      rw [ck_t (by omega), bs]
      exact ih (i + 1) m _ _ τ2 (by omega) (by omega) a2 (hnew (Or.inr e2))
theorem st_best {σ T τ : Blk} {B : Nat → Blk} {nb : Nat} {C P K : Nat → Int} {s : Nat → Int} (h : INV σ B nb T τ) (hs : ∀ j, j < 763 → τ 1 j = s j) (hH : ∀ x, x ≤ 16 → ∀ τ : Blk, (∀ j, j < 763 → τ 1 j = s j) → REFH s τ x (C x) (P x) (K x)) {b c : Int} (hb : BS C (s 2 = 0) 0 b c) : ∃ σ' B' nb' τ', g_X4_bestHead σ B nb = some (b, σ', B', nb') ∧ INV σ' B' nb' T τ' ∧ ∀ j, j < 763 → τ' 1 j = s j := by
  obtain ⟨hR, hI⟩ := h
  obtain ⟨u, σ', B', nb', τ', s1, s2, s3⟩ := bestHead_ok hR
  obtain ⟨B'', g1, g2⟩ := to_g b_bestHead s1
  have hs2 := hR.2.1.1.2.1.s2
  rw [hs 2 (by omega)] at hs2
  have hf : ∃ τ2, f_X5_bestHead τ = some (b, τ2) ∧ ∀ j, j < 763 → τ2 1 j = s j := by
    by_cases e : s 2 = 0
    · rcases hb with ⟨b1, -⟩ | ⟨b1, -⟩
      · refine ⟨τ, ?_, hs⟩
        obtain ⟨m, hm⟩ : ∃ m, fu = m + 1 := ⟨fu - 1, by have := fu_lt (k := 0) (by omega); omega⟩
        unfold f_X5_bestHead
        rw [hm, f_X5_bestHead_L7, if_neg (by omega), ld_t 2 (by omega) (by omega), bs, hs 2 (by omega), if_pos (by omega), b1]
      · exact absurd e b1
    · obtain ⟨b', c', τ2, a1, a2, a3⟩ := best_ref hH (show 0 < s 2 by omega) 9 0 fu (-6) 0 τ (by omega) (fu_lt (by omega)) hs (Or.inl ⟨rfl, rfl⟩)
      refine ⟨τ2, a1.trans ?_, a2⟩
      rcases hb with ⟨b1, b2⟩ | ⟨b1, y, b2, b3, b4, b5, b6, b7⟩
      · omega
      · rcases a3 with ⟨a3, a4⟩ | ⟨y', a3, a4, a5, a6, a7⟩
        · omega
        · have k1 := b7 y' (by omega) (by omega) a5
          have k2 := a7 y (by omega) b5
          have e : y = y' := by omega
          rw [a3, b2, e]
  obtain ⟨τ2, f1, f2⟩ := hf
  have e := Prod.mk.inj (Option.some.inj (f1.symm.trans s2))
  refine ⟨σ', B'', nb', τ', by rw [g1, e.1], ⟨by rw [g2]; exact s3, ?_⟩, fun j hj => by rw [← e.2]; exact f2 j hj⟩
  rw [← e.2]
  exact hI.congr (fun _ _ => rfl) (fun j hj => by rw [f2 j hj, hs j hj])
