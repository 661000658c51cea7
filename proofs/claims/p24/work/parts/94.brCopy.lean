/-! BRIDGE: a Book copied -/
theorem cpB_v2 {σ τ : Blk} {c c2 n i j : Nat} : cpB σ c τ c2 n i j = if i = c ∧ j < n then τ c2 j else σ i j := rfl
/-- what the middle term's loop leaves -/
def cpO (lo : Nat) (s τ : Blk) : Blk := fun c j => if ((13 + lo ≤ c ∧ c < 43) ∨ (44 + lo ≤ c ∧ c < 74)) ∧ j < 40 then τ c j else s c j
theorem cpO_loop {τ : Blk} : ∀ (n x : Nat) (s : Blk), x ≤ 30 → 30 - x < n → f_X0_copyFrom_L127 τ n (x : Int) s = some (cpO x s τ) := by
  intro n
  induction n with
  | zero => intro x s _ h; omega
  | succ n ih =>
    intro x s hx hn
    rw [f_X0_copyFrom_L127]
    by_cases e : x = 30
    · subst e
      rw [if_pos (by omega)]
      congr 1
      funext c j
      unfold cpO
      rw [if_neg (by omega)]
    · rw [if_neg (by omega), gd_t (by omega) (by omega), gd_t (by omega) (by omega), pk_t, gd_t (by omega) (by omega), gd_t (by omega) (by omega), pk_t, ck_t (by omega), bs, Int.toNat_natCast]
      have e1 : ((x : Int) + 1) = ((x + 1 : Nat) : Int) := by omega
      rw [e1, ih (x + 1) _ (by omega) (by omega)]
      congr 1
      funext c j
      unfold cpO
      rw [cpB_v2, cpB_v2]
      by_cases h1 : ((13 + (x + 1) ≤ c ∧ c < 43) ∨ (44 + (x + 1) ≤ c ∧ c < 74)) ∧ j < 40
      · rw [if_pos h1, if_pos (by omega)]
      · rw [if_neg h1]
        by_cases h2 : c = 44 + x ∧ j < 40
        · rw [if_pos h2, if_pos (by omega), h2.1]
        · rw [if_neg h2]
          by_cases h3 : c = 13 + x ∧ j < 40
          · rw [if_pos h3, if_pos (by omega), h3.1]
          · rw [if_neg h3, if_neg (by omega)]
/-- what the class's loop leaves -/
def cpN (lo : Nat) (s τ : Blk) : Blk := fun c j => if 8 + 3 * lo ≤ c ∧ c < 98 ∧ ((c % 3 = 2 ∧ j < 5) ∨ (c % 3 ≠ 2 ∧ j < 40)) then τ c j else s c j
theorem cpR {σ τ : Blk} {r : Nat} : ∃ σ', g_X7_copyFrom σ r τ r = some σ' ∧ ∀ c j, σ' c j = if 8 + 3 * r ≤ c ∧ c < 8 + 3 * (r + 1) ∧ ((c % 3 = 2 ∧ j < 5) ∨ (c % 3 ≠ 2 ∧ j < 40)) then τ c j else σ c j := by
  refine ⟨_, rfl, fun c j => ?_⟩
  show cpB (cpB (up2 (up2 (up2 (up2 (up2 σ (8 + 3 * r) 0 _) (8 + 3 * r) 1 _) (8 + 3 * r) 2 _) (8 + 3 * r) 3 _) (8 + 3 * r) 4 _) (9 + 3 * r) τ (9 + 3 * r) 40) (10 + 3 * r) τ (10 + 3 * r) 40 c j = _
  rw [cpB_v2, cpB_v2]
  by_cases h1 : c = 10 + 3 * r ∧ j < 40
  · rw [if_pos h1, if_pos (by omega), h1.1]
  rw [if_neg h1]
  by_cases h2 : c = 9 + 3 * r ∧ j < 40
  · rw [if_pos h2, if_pos (by omega), h2.1]
  rw [if_neg h2]
  by_cases h3 : c = 8 + 3 * r
  · subst h3
    by_cases h4 : j < 5
    · rw [if_pos (by omega)]
      rcases (show j = 0 ∨ j = 1 ∨ j = 2 ∨ j = 3 ∨ j = 4 by omega) with rfl | rfl | rfl | rfl | rfl
      · rw [up2_n (by omega), up2_n (by omega), up2_n (by omega), up2_n (by omega), up2_s]
      · rw [up2_n (by omega), up2_n (by omega), up2_n (by omega), up2_s]
      · rw [up2_n (by omega), up2_n (by omega), up2_s]
      · rw [up2_n (by omega), up2_s]
      · rw [up2_s]
    · rw [if_neg (by omega), up2_n (by omega), up2_n (by omega), up2_n (by omega), up2_n (by omega), up2_n (by omega)]
  · rw [if_neg (by omega), up2_n (by omega), up2_n (by omega), up2_n (by omega), up2_n (by omega), up2_n (by omega)]
theorem cpN_nil {s τ : Blk} : cpN 30 s τ = s := by
  funext c j
  unfold cpN
  rw [if_neg (by omega)]
theorem cpN_one {x : Nat} {s s' τ : Blk} (h2 : ∀ c j, s' c j = if 8 + 3 * x ≤ c ∧ c < 8 + 3 * (x + 1) ∧ ((c % 3 = 2 ∧ j < 5) ∨ (c % 3 ≠ 2 ∧ j < 40)) then τ c j else s c j) (hx : x < 30) : cpN (x + 1) s' τ = cpN x s τ := by
  funext c i
  unfold cpN
  rw [h2]
  by_cases h3 : 8 + 3 * (x + 1) ≤ c ∧ c < 98 ∧ ((c % 3 = 2 ∧ i < 5) ∨ (c % 3 ≠ 2 ∧ i < 40))
  · rw [if_pos h3, if_pos (by omega)]
  · rw [if_neg h3]
    by_cases h4 : 8 + 3 * x ≤ c ∧ c < 8 + 3 * (x + 1) ∧ ((c % 3 = 2 ∧ i < 5) ∨ (c % 3 ≠ 2 ∧ i < 40))
    · rw [if_pos h4, if_pos (by omega)]
    · rw [if_neg h4, if_neg (by omega)]
theorem cpN_step {τ : Blk} {j : Blk → Option Blk} {n x : Nat} {s σ' : Blk} (hx : x < 30) (h1 : g_X7_copyFrom s x τ x = some σ') : g_X0_copyFrom_L37 τ j (n + 1) (x : Int) s = g_X0_copyFrom_L37 τ j n ((x + 1 : Nat) : Int) σ' := by
  rw [g_X0_copyFrom_L37, if_neg (by omega), gk_t rfl (by omega), gk_t rfl (by omega), jp_t, h1, bs, ck_t (by omega)]
  rfl
theorem cpN_end {τ : Blk} {j : Blk → Option Blk} {n : Nat} {s : Blk} : g_X0_copyFrom_L37 τ j (n + 1) ((30 : Nat) : Int) s = j s := by
  rw [g_X0_copyFrom_L37, if_pos (by omega)]
theorem cpN_loop {τ : Blk} {j : Blk → Option Blk} : ∀ (n x : Nat) (s : Blk), x ≤ 30 → 30 - x < n → g_X0_copyFrom_L37 τ j n (x : Int) s = j (cpN x s τ)
  | 0, x, s, _, h => by omega
  | n + 1, x, s, hx, hn => by
    by_cases e : x = 30
    · rw [e, cpN_end, cpN_nil]
    · obtain ⟨σ', h1, h2⟩ := cpR (σ := s) (τ := τ) (r := x)
      rw [cpN_step (by omega) h1, cpN_loop n (x + 1) σ' (by omega) (by omega), cpN_one h2 (by omega)]
theorem b_copy3 {σ τ : Blk} : ∃ σ', g_X3_copyFrom σ τ = some σ' ∧ (∀ c j, σ' c j = if (2 ≤ c ∧ c ≤ 4 ∧ j < 400) ∨ (c = 5 ∧ j < 10) then τ c j else σ c j) := by
  refine ⟨_, rfl, fun c j => ?_⟩
  show cpB (cpB (cpB (cpB σ 2 τ 2 400) 3 τ 3 400) 4 τ 4 400) 5 τ 5 10 c j = _
  rw [cpB_v2, cpB_v2, cpB_v2, cpB_v2]
  by_cases h5 : c = 5 ∧ j < 10
  · rw [if_pos h5, if_pos (by omega), h5.1]
  rw [if_neg h5]
  by_cases h4 : c = 4 ∧ j < 400
  · rw [if_pos h4, if_pos (by omega), h4.1]
  rw [if_neg h4]
  by_cases h3 : c = 3 ∧ j < 400
  · rw [if_pos h3, if_pos (by omega), h3.1]
  rw [if_neg h3]
  by_cases h2 : c = 2 ∧ j < 400
  · rw [if_pos h2, if_pos (by omega), h2.1]
  rw [if_neg h2, if_neg (by omega)]
theorem f_copy3 {σ τ : Blk} : ∃ σ', f_X3_copyFrom σ τ = some σ' ∧ (∀ c j, σ' c j = if (2 ≤ c ∧ c ≤ 4 ∧ j < 400) ∨ (c = 5 ∧ j < 10) then τ c j else σ c j) := b_copy3
theorem b_copy {σ τ : Blk} : LeB (f_X0_copyFrom (VW σ) (VW τ)) (g_X0_copyFrom σ τ) := by
  obtain ⟨s1, a1, a2⟩ := f_copy3 (σ := up2 (up2 (up2 (VW σ) 0 0 (VW τ 0 0)) 0 1 (VW τ 0 1)) 0 2 (VW τ 0 2)) (τ := VW τ)
  obtain ⟨s2, b1, b2⟩ := b_copy3 (σ := up2 (up2 (up2 σ 0 0 (τ 0 0)) 0 1 (τ 0 1)) 0 2 (τ 0 2)) (τ := τ)
  have ef : f_X0_copyFrom (VW σ) (VW τ) = some (cpO 0 (cpB (cpB (cpB (cpB (cpB (cpB s1 6 (VW τ) 6 100) 7 (VW τ) 7 30) 8 (VW τ) 8 30) 9 (VW τ) 9 30) 10 (VW τ) 10 30) 11 (VW τ) 11 30) (VW τ)) := by
    unfold f_X0_copyFrom
    rw [pf_t, pf_t, pf_t, a1, bs, pk_t, pk_t, pk_t, pk_t, pk_t, pk_t]
    exact cpO_loop fu 0 _ (by omega) (fu_lt (by omega))
  have eg : g_X0_copyFrom σ τ = some (cpB (cpN 0 s2 τ) 7 τ 7 100) := by
    unfold g_X0_copyFrom
    rw [pf_t, pf_t, pf_t, b1, bs, jp_t]
    exact cpN_loop fu 0 _ (by omega) (fu_lt (by omega))
  rw [ef, eg]
  refine le_ret ?_
  have hs1 : ∀ c j, 5 < c → s1 c j = VW σ c j := fun c j hc => by
    rw [a2, if_neg (by omega), up2_n (by omega), up2_n (by omega), up2_n (by omega)]
  have hs2 : ∀ c j, 5 < c → s2 c j = σ c j := fun c j hc => by
    rw [b2, if_neg (by omega), up2_n (by omega), up2_n (by omega), up2_n (by omega)]
  refine VW_ext (fun c hc j => ?_) (fun j => ?_) (fun k hk j => ?_) (fun j => ?_) (fun r hr j => ?_) (fun j => ?_) (fun r j => ?_)
  · rw [cpB_v2, if_neg (by omega)]
    unfold cpN cpO
    rw [if_neg (by omega), if_neg (by omega), cpB_v2, cpB_v2, cpB_v2, cpB_v2, cpB_v2, cpB_v2, if_neg (by omega), if_neg (by omega), if_neg (by omega), if_neg (by omega), if_neg (by omega), if_neg (by omega), a2, b2, vw_lo hc]
    by_cases h1 : (2 ≤ c ∧ c ≤ 4 ∧ j < 400) ∨ (c = 5 ∧ j < 10)
    · rw [if_pos h1, if_pos h1]
    · rw [if_neg h1, if_neg h1, up2_v, up2_v, up2_v, up2_v, up2_v, up2_v, vw_lo hc, vw_lo (show 0 < 6 by omega)]
  · rw [cpB_v2]
    unfold cpN cpO
    rw [if_neg (show ¬ (((13 + 0 ≤ 6 ∧ 6 < 43) ∨ (44 + 0 ≤ 6 ∧ 6 < 74)) ∧ j < 40) by omega), if_neg (show ¬ (8 + 3 * 0 ≤ 7 ∧ 7 < 98 ∧ ((7 % 3 = 2 ∧ j < 5) ∨ (7 % 3 ≠ 2 ∧ j < 40))) by omega), cpB_v2, cpB_v2, cpB_v2, cpB_v2, cpB_v2, cpB_v2, if_neg (show ¬ ((6 : Nat) = 11 ∧ j < 30) by omega), if_neg (show ¬ ((6 : Nat) = 10 ∧ j < 30) by omega), if_neg (show ¬ ((6 : Nat) = 9 ∧ j < 30) by omega), if_neg (show ¬ ((6 : Nat) = 8 ∧ j < 30) by omega), if_neg (show ¬ ((6 : Nat) = 7 ∧ j < 30) by omega), hs1 6 j (by omega), hs2 7 j (by omega)]
    by_cases h1 : j < 100
    · rw [if_pos ⟨rfl, h1⟩, if_pos ⟨rfl, h1⟩]; rfl
    · rw [if_neg (by omega), if_neg (by omega)]; rfl
  · have hv : ∀ z : Blk, VW z (7 + k) j = z (8 + 3 * j) k := fun z => by
      rcases (show k = 0 ∨ k = 1 ∨ k = 2 ∨ k = 3 ∨ k = 4 by omega) with rfl | rfl | rfl | rfl | rfl <;> rfl
    rw [cpB_v2, if_neg (by omega)]
    unfold cpN cpO
    rw [if_neg (show ¬ (((13 + 0 ≤ 7 + k ∧ 7 + k < 43) ∨ (44 + 0 ≤ 7 + k ∧ 7 + k < 74)) ∧ j < 40) by omega), hs2 _ _ (by omega), cpB_v2, cpB_v2, cpB_v2, cpB_v2, cpB_v2, cpB_v2, hs1 _ _ (by omega), hv]
    have hvt : ∀ q, q = 7 + k → VW τ q j = τ (8 + 3 * j) k := fun q hq => by rw [hq, hv]
    by_cases h1 : j < 30
    · rw [if_pos (by omega)]
      by_cases k4 : 7 + k = 11
      · rw [if_pos ⟨k4, h1⟩, hvt 11 (by omega)]
      rw [if_neg (by omega)]
      by_cases k3 : 7 + k = 10
      · rw [if_pos ⟨k3, h1⟩, hvt 10 (by omega)]
      rw [if_neg (by omega)]
      by_cases k2 : 7 + k = 9
      · rw [if_pos ⟨k2, h1⟩, hvt 9 (by omega)]
      rw [if_neg (by omega)]
      by_cases k1 : 7 + k = 8
      · rw [if_pos ⟨k1, h1⟩, hvt 8 (by omega)]
      rw [if_neg (by omega), if_pos ⟨by omega, h1⟩, hvt 7 (by omega)]
    · rw [if_neg (by omega), if_neg (by omega), if_neg (by omega), if_neg (by omega), if_neg (by omega), if_neg (by omega), if_neg (by omega)]
  · unfold cpO
    rw [if_neg (by omega), cpB_v2, cpB_v2, cpB_v2, cpB_v2, cpB_v2, cpB_v2, if_neg (by omega), if_neg (by omega), if_neg (by omega), if_neg (by omega), if_neg (by omega), if_neg (by omega), hs1 12 j (by omega)]
    rfl
  · rw [cpB_v2, if_neg (by omega)]
    unfold cpN cpO
    rw [hs2 _ _ (by omega), cpB_v2, cpB_v2, cpB_v2, cpB_v2, cpB_v2, cpB_v2, if_neg (show ¬ (13 + r = 11 ∧ j < 30) by omega), if_neg (show ¬ (13 + r = 10 ∧ j < 30) by omega), if_neg (show ¬ (13 + r = 9 ∧ j < 30) by omega), if_neg (show ¬ (13 + r = 8 ∧ j < 30) by omega), if_neg (show ¬ (13 + r = 7 ∧ j < 30) by omega), if_neg (show ¬ (13 + r = 6 ∧ j < 100) by omega), hs1 _ _ (by omega), vw_sp hr, vw_sp hr]
    by_cases h1 : j < 40
    · rw [if_pos (by omega), if_pos (by omega)]
    · rw [if_neg (by omega), if_neg (by omega)]
  · unfold cpO
    rw [if_neg (by omega), cpB_v2, cpB_v2, cpB_v2, cpB_v2, cpB_v2, cpB_v2, if_neg (by omega), if_neg (by omega), if_neg (by omega), if_neg (by omega), if_neg (by omega), if_neg (by omega), hs1 43 j (by omega)]
    rfl
  · rw [cpB_v2, if_neg (by omega)]
    unfold cpN cpO
    rw [hs2 _ _ (by omega), cpB_v2, cpB_v2, cpB_v2, cpB_v2, cpB_v2, cpB_v2, if_neg (show ¬ (44 + r = 11 ∧ j < 30) by omega), if_neg (show ¬ (44 + r = 10 ∧ j < 30) by omega), if_neg (show ¬ (44 + r = 9 ∧ j < 30) by omega), if_neg (show ¬ (44 + r = 8 ∧ j < 30) by omega), if_neg (show ¬ (44 + r = 7 ∧ j < 30) by omega), if_neg (show ¬ (44 + r = 6 ∧ j < 100) by omega), hs1 _ _ (by omega), vw_tx, vw_tx]
    by_cases h1 : r < 30 ∧ j < 40
    · rw [if_pos (by omega), if_pos (by omega)]
    · rw [if_neg (by omega), if_neg (by omega)]
