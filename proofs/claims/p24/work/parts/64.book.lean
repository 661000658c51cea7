/-! PURE: a Book and the model's ints; a Book copied -/
def TXr (β : Blk) (s : Nat → Int) (x : Nat) : Prop := pt s x 0 = 1 → ∀ k : Nat, (k : Int) < pt s x 2 → β (44 + x) k = lt s x k
def RB (β : Blk) (s : Nat → Int) : Prop := RBc (isr s) β s ∧ ∀ x, x < 30 → TXr β s x
/-- two Books hold the same -/
def VB (β' β : Blk) : Prop := (∀ j, j < 3 → β' 0 j = β 0 j) ∧ (∀ q, q < 400 → β' 2 q = β 2 q ∧ β' 3 q = β 3 q ∧ β' 4 q = β 4 q) ∧ (∀ p, p < 10 → β' 5 p = β 5 p) ∧ (∀ k, k < 100 → β' 6 k = β 6 k) ∧ (∀ x, x < 30 → β' 7 x = β 7 x ∧ β' 8 x = β 8 x ∧ β' 9 x = β 9 x ∧ β' 10 x = β 10 x ∧ β' 11 x = β 11 x) ∧ ∀ x, x < 30 → ∀ i, i < 40 → β' (13 + x) i = β (13 + x) i ∧ β' (44 + x) i = β (44 + x) i
theorem RBc.congrB {w : Nat → Prop} {β β' : Blk} {s : Nat → Int} (h : RBc w β s) (hv : VB β' β) : RBc w β' s := by
  obtain ⟨⟨h1, h2, h3⟩, h4, h5, h6, h7, h8, h9⟩ := h
  obtain ⟨v0, v2, v5, v6, v7, v13⟩ := hv
  refine ⟨⟨by rw [v0 0 (by omega)]; exact h1, by rw [v0 1 (by omega)]; exact h2, by rw [v0 2 (by omega)]; exact h3⟩, h4.congr v6 (fun x hx => (v7 x hx).1) rfl (fun _ _ => ⟨rfl, rfl⟩), ⟨h5.1, fun q hq => ?_, fun p hp => by rw [v5 p hp]; exact h5.2.2 p hp⟩, h6.congr (fun _ _ => rfl) (fun _ _ => Iff.rfl) (fun x hx hw => ⟨(v7 x hx).2.2.2.1, (v7 x hx).2.2.1, (v7 x hx).2.2.2.2, fun i hi => (v13 x hx i (by have := (h6.own hx hw).2.2.2.2.1; omega)).1⟩), fun x hx hi => ?_, h8, h9⟩
  · have h10 := h5.2.1 q hq
    rw [(v2 q hq).1, (v2 q hq).2.1, (v2 q hq).2.2]
    refine ⟨h10.1, h10.2.1, fun h0 => ?_⟩
    obtain ⟨r, hr, -, e⟩ := h6.rowof hq h0
    have h11 := h10.2.2 h0
    rw [e, Int.toNat_natCast] at h11 ⊢
    rw [(v7 r hr).1]
    exact h11
  · have h10 := h7 x hx hi
    rw [(v7 x hx).2.1, (v7 x hx).2.2.1, (v7 x hx).2.2.2.1]
    exact h10
theorem RB.congrB {β β' : Blk} {s : Nat → Int} (h : RB β s) (hv : VB β' β) : RB β' s := by
  refine ⟨h.1.congrB hv, fun x hx hi k hk => ?_⟩
  obtain ⟨-, -, -, -, h7, -⟩ := h.1
  have h8 := (h7 x hx hi).2.1
  rw [(hv.2.2.2.2.2 x hx k (by omega)).2]
  exact h.2 x hx hi k hk
theorem RB.congrS {β : Blk} {s s' : Nat → Int} (h : RB β s) (hs : ∀ j, j < 763 → s' j = s j) : RB β s' := by
  have hp : ∀ x k, x < 30 → k < 12 → pt s' x k = pt s x k := fun x k hx hk => hs _ (by omega)
  refine ⟨(h.1.congrS hs).congrW (fun x hx => by unfold isr; rw [hp x 0 hx (by omega)]), fun x hx hi k hk => ?_⟩
  rw [hp x 0 hx (by omega)] at hi
  rw [hp x 2 hx (by omega)] at hk
  obtain ⟨-, -, -, -, h7, -⟩ := h.1
  have h8 := (h7 x hx hi).2.1
  rw [h.2 x hx hi k hk, lt_c (fun m hm => hp x _ hx (by omega)) (by omega)]
theorem cpB_v (σ : Blk) (c : Nat) (τ : Blk) (c2 n i j : Nat) : cpB σ c τ c2 n i j = if i = c ∧ j < n then τ c2 j else σ i j := rfl
theorem cpB_in {σ τ : Blk} {c c2 n j : Nat} (h : j < n) : cpB σ c τ c2 n c j = τ c2 j := by
  rw [cpB_v, if_pos ⟨rfl, h⟩]
theorem cpB_ne {σ τ : Blk} {c c2 n i j : Nat} (h : i ≠ c) : cpB σ c τ c2 n i j = σ i j := by
  rw [cpB_v, if_neg (by omega)]
theorem pf_t {α : Type} {σ : Blk} {c k : Nat} {v : Int} {K : Blk → Option α} : pf σ c k v K = K (up2 σ c k v) := rfl
theorem pk_t {α : Type} {σ : Blk} {K : Blk → Option α} : pk σ K = K σ := rfl
theorem cf_loopA {τ u : Blk} (n x : Nat) (s : Blk) (hx : x < 30) (a1 : ∀ c, c < 13 → s c = u c) (a2 : ∀ y, y < x → ∀ i, i < 40 → s (13 + y) i = τ (13 + y) i ∧ s (44 + y) i = τ (44 + y) i) : ∃ s', f_X0_copyFrom_L127 τ (n + 1) (x : Int) s = f_X0_copyFrom_L127 τ n ((x + 1 : Nat) : Int) s' ∧ (∀ c, c < 13 → s' c = u c) ∧ ∀ y, y < x + 1 → ∀ i, i < 40 → s' (13 + y) i = τ (13 + y) i ∧ s' (44 + y) i = τ (44 + y) i := by
  refine ⟨cpB (cpB s (13 + x) τ (13 + x) 40) (44 + x) τ (44 + x) 40, ?_, fun c hc => ?_, fun y hy i hi => ?_⟩
  · rw [f_X0_copyFrom_L127, if_neg (by omega), gd_t (by omega) (by omega), gd_t (by omega) (by omega), pk_t, gd_t (by omega) (by omega), gd_t (by omega) (by omega), pk_t, ck_t (by omega), bs, Int.toNat_natCast]
    rfl
  · funext i
    rw [cpB_ne (by omega), cpB_ne (by omega), a1 c hc]
  · by_cases e : y = x
    · subst e
      rw [cpB_ne (by omega), cpB_in hi, cpB_in hi]
      exact ⟨rfl, rfl⟩
    · rw [cpB_ne (by omega), cpB_ne (by omega), cpB_ne (by omega), cpB_ne (by omega)]
      exact a2 y (by omega) i hi
theorem cf_loopB {τ : Blk} (n : Nat) (s : Blk) : f_X0_copyFrom_L127 τ (n + 1) ((30 : Nat) : Int) s = some s := by
  rw [f_X0_copyFrom_L127, if_pos (by omega)]
theorem cf_loop {τ u : Blk} : ∃ σ', f_X0_copyFrom_L127 τ fu 0 u = some σ' ∧ (∀ c, c < 13 → σ' c = u c) ∧ ∀ y, y < 30 → ∀ i, i < 40 → σ' (13 + y) i = τ (13 + y) i ∧ σ' (44 + y) i = τ (44 + y) i :=
  loopSt (F := fun n (x : Nat) (s : Blk) => f_X0_copyFrom_L127 τ n (x : Int) s) (P := fun x s => (∀ c, c < 13 → s c = u c) ∧ ∀ y, y < x → ∀ i, i < 40 → s (13 + y) i = τ (13 + y) i ∧ s (44 + y) i = τ (44 + y) i) (Q := fun o => ∃ σ', o = some σ' ∧ (∀ c, c < 13 → σ' c = u c) ∧ ∀ y, y < 30 → ∀ i, i < 40 → σ' (13 + y) i = τ (13 + y) i ∧ σ' (44 + y) i = τ (44 + y) i) 30 (fun n x s hx hp => cf_loopA n x s hx hp.1 hp.2) (fun n s hp => ⟨s, cf_loopB n s, hp.1, hp.2⟩) fu 0 u (by omega) (fu_lt (by omega)) ⟨fun _ _ => rfl, fun y hy => by omega⟩
theorem x3_copyFrom {σ τ : Blk} : ∃ σ', f_X3_copyFrom σ τ = some σ' ∧ (∀ c, c < 2 ∨ 5 < c → σ' c = σ c) ∧ (∀ q, q < 400 → σ' 2 q = τ 2 q ∧ σ' 3 q = τ 3 q ∧ σ' 4 q = τ 4 q) ∧ ∀ p, p < 10 → σ' 5 p = τ 5 p := by
  refine ⟨cpB (cpB (cpB (cpB σ 2 τ 2 400) 3 τ 3 400) 4 τ 4 400) 5 τ 5 10, rfl, fun c hc => ?_, fun q hq => ⟨?_, ?_, ?_⟩, fun p hp => ?_⟩
  · funext i
    rw [cpB_ne (by omega), cpB_ne (by omega), cpB_ne (by omega), cpB_ne (by omega)]
  · rw [cpB_ne (by omega), cpB_ne (by omega), cpB_ne (by omega), cpB_in hq]
  · rw [cpB_ne (by omega), cpB_ne (by omega), cpB_in hq]
  · rw [cpB_ne (by omega), cpB_in hq]
  · rw [cpB_in hp]
theorem x0_copyFrom {σ τ : Blk} : ∃ σ', f_X0_copyFrom σ τ = some σ' ∧ VB σ' τ := by
  unfold f_X0_copyFrom
  rw [pf_t, pf_t, pf_t]
  obtain ⟨a, a1, a2, a3, a4⟩ := x3_copyFrom (σ := up2 (up2 (up2 σ 0 0 (τ 0 0)) 0 1 (τ 0 1)) 0 2 (τ 0 2)) (τ := τ)
  rw [a1, bs, pk_t, pk_t, pk_t, pk_t, pk_t, pk_t]
  obtain ⟨s, c1, c2, c3⟩ := cf_loop (τ := τ) (u := cpB (cpB (cpB (cpB (cpB (cpB a 6 τ 6 100) 7 τ 7 30) 8 τ 8 30) 9 τ 9 30) 10 τ 10 30) 11 τ 11 30)
  refine ⟨s, c1, fun j hj => ?_, fun q hq => ?_, fun p hp => ?_, fun k hk => ?_, fun x hx => ?_, c3⟩
  · rw [c2 0 (by omega), cpB_ne (by omega), cpB_ne (by omega), cpB_ne (by omega), cpB_ne (by omega), cpB_ne (by omega), cpB_ne (by omega), a2 0 (by omega)]
    rcases (show j = 0 ∨ j = 1 ∨ j = 2 by omega) with rfl | rfl | rfl
    · rw [up2_n (by omega), up2_n (by omega), up2_s]
    · rw [up2_n (by omega), up2_s]
    · rw [up2_s]
  · rw [c2 2 (by omega), c2 3 (by omega), c2 4 (by omega)]
    refine ⟨?_, ?_, ?_⟩
    · rw [cpB_ne (by omega), cpB_ne (by omega), cpB_ne (by omega), cpB_ne (by omega), cpB_ne (by omega), cpB_ne (by omega)]; exact (a3 q hq).1
    · rw [cpB_ne (by omega), cpB_ne (by omega), cpB_ne (by omega), cpB_ne (by omega), cpB_ne (by omega), cpB_ne (by omega)]; exact (a3 q hq).2.1
    · rw [cpB_ne (by omega), cpB_ne (by omega), cpB_ne (by omega), cpB_ne (by omega), cpB_ne (by omega), cpB_ne (by omega)]; exact (a3 q hq).2.2
  · rw [c2 5 (by omega), cpB_ne (by omega), cpB_ne (by omega), cpB_ne (by omega), cpB_ne (by omega), cpB_ne (by omega), cpB_ne (by omega)]; exact a4 p hp
  · rw [c2 6 (by omega), cpB_ne (by omega), cpB_ne (by omega), cpB_ne (by omega), cpB_ne (by omega), cpB_ne (by omega), cpB_in hk]
  · rw [c2 7 (by omega), c2 8 (by omega), c2 9 (by omega), c2 10 (by omega), c2 11 (by omega)]
    refine ⟨?_, ?_, ?_, ?_, ?_⟩
    · rw [cpB_ne (by omega), cpB_ne (by omega), cpB_ne (by omega), cpB_ne (by omega), cpB_in hx]
    · rw [cpB_ne (by omega), cpB_ne (by omega), cpB_ne (by omega), cpB_in hx]
    · rw [cpB_ne (by omega), cpB_ne (by omega), cpB_in hx]
    · rw [cpB_ne (by omega), cpB_in hx]
    · rw [cpB_in hx]
