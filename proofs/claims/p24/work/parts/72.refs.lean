/-! PURE: a new Book; the ten references *)  -/
theorem x3_init : ∃ π, f_X3_init = some π ∧ (∀ c j, c ≠ 4 → π c j = 0) ∧ ∀ p, p < 10 → π 4 p = 40 := by
  obtain ⟨a, a1, a2, a3⟩ := j_fill (σ := fun _ _ => 0) (i := 4) (n := 10) (v := 40) (by omega)
  refine ⟨a, ?_, fun c j hc => by rw [a2 c hc], a3⟩
  unfold f_X3_init
  rw [a1, bs]
theorem rb_new {β : Blk} {s : Nat → Int} (h0 : β 0 0 = 6 ∧ β 0 1 = 8 ∧ β 0 2 = 0) (h2 : ∀ q, q < 400 → β 2 q = 0 ∧ β 4 q = 0) (h5 : ∀ p, p < 10 → β 5 p = 40) (h6 : ∀ k, k < 100 → β 6 k = -1) (h7 : ∀ r, r < 30 → β 7 r = -1) (s0 : s 0 = 6) (s1 : s 1 = 8) (sj : ∀ j, 2 ≤ j → j < 763 → s j = 0) : RB β s := by
  have hp : ∀ r k, r < 30 → k < 12 → pt s r k = 0 := fun r k hr hk => sj _ (by omega) (by omega)
  have hno : ∀ r, r < 30 → ¬ isr s r := fun r hr z => by
    have h1 : pt s r 0 = 1 := z
    rw [hp r 0 hr (by omega)] at h1
    exact absurd h1 (by decide)
  refine ⟨⟨⟨by rw [h0.1, s0]; decide, by rw [h0.2.1, s1]; decide, by rw [h0.2.2, sj 2 (by omega) (by omega)]⟩, ⟨fun r hr => Or.inr ⟨hp r 0 hr (by omega), h7 r hr⟩, fun k hk => Or.inl (h6 k hk), ?_⟩, ⟨fun q hq => Or.inl (sj _ (by omega) (by omega)), fun q hq => ?_, fun p hp2 => ?_⟩, ⟨fun r hr hw => absurd hw (hno r hr), fun q hq hz => absurd (sj _ (by omega) (by omega)) hz⟩, fun r hr hi => absurd hi (hno r hr), fun r hr _ => hp r 2 hr (by omega), fun r hr hw => hw⟩, fun r hr hi => absurd hi (hno r hr)⟩
  · rw [sj 2 (by omega) (by omega), sumN_congr (g := fun _ => 0) (fun r hr => hp r 0 hr (by omega)), sumN_const]
    decide
  · rw [sj _ (by omega) (by omega), (h2 q hq).1, (h2 q hq).2]
    exact ⟨rfl, rfl, fun z => absurd rfl z⟩
  · have e : fr s p = 40 := by
      unfold fr
      rw [sumN_congr (g := fun _ => 0) (fun i hi => by
        show cl (s (363 + (40 * p + i))) = 0
        rw [sj _ (by omega) (by omega)]
        rfl), sumN_const]
      omega
    rw [h5 p hp2, e]
    exact ⟨rfl, by decide⟩
theorem g3_init : ∃ π, g_X3_init = some π ∧ (∀ c j, c ≠ 4 → π c j = 0) ∧ ∀ p, p < 10 → π 4 p = 40 := by
  obtain ⟨a, a1, a2, a3⟩ := j_fill (σ := fun _ _ => 0) (i := 4) (n := 10) (v := 40) (by omega)
  refine ⟨a, ?_, fun c j hc => by rw [a2 c hc], a3⟩
  unfold g_X3_init
  rw [a1, bs]
theorem x0_init : ∃ β, f_X0_init = some β ∧ ∀ s : Nat → Int, s 0 = 6 → s 1 = 8 → (∀ j, 2 ≤ j → j < 763 → s j = 0) → RB β s := by
  obtain ⟨π, p1, p2, p3⟩ := g3_init
  obtain ⟨a, a1, a2, a3⟩ := j_fill (σ := iniBk π) (i := 7) (n := 100) (v := -1) (by omega)
  refine ⟨VW a, ?_, fun s s0 s1 sj => rb_new ?_ ?_ ?_ ?_ ?_ s0 s1 sj⟩
  · unfold f_X0_init g_X0_init
    rw [p1, bs, a1, bs, bs]
  · show a 0 0 = 6 ∧ a 0 1 = 8 ∧ a 0 2 = 0
    rw [a2 0 (by omega)]
    exact ⟨rfl, rfl, rfl⟩
  · intro q hq
    show a 2 q = 0 ∧ a 4 q = 0
    rw [a2 2 (by omega), a2 4 (by omega)]
    exact ⟨p2 1 q (by omega), p2 3 q (by omega)⟩
  · intro p hp
    show a 5 p = 40
    rw [a2 5 (by omega)]
    exact p3 p hp
  · intro k hk
    exact a3 k hk
  · intro r hr
    show a (8 + 3 * r) 0 = -1
    rw [a2 _ (by omega)]
    unfold iniBk
    rw [if_neg (by omega), if_neg (by omega), if_neg (by omega), if_pos (by omega)]
    rfl
def rf (σ : Blk) (i : Nat) : Int := if i = 0 then σ 0 3 else if i = 1 then σ 0 4 else if i < 8 then σ 7 (i - 2) else σ 8 (i - 8)
def RF (σ : Blk) (nb : Nat) : Prop := 0 ≤ rf σ 0 ∧ 0 ≤ rf σ 1 ∧ (∀ i, i < 10 → rf σ i < nb) ∧ (∀ i j, i < 10 → j < 10 → i ≠ j → 0 ≤ rf σ i → rf σ i ≠ rf σ j) ∧ (nb : Int) + sumN (fun i => if rf σ i < 0 then 1 else 0) 10 ≤ 10
theorem rf0 (σ : Blk) : rf σ 0 = σ 0 3 := rfl
theorem rf1 (σ : Blk) : rf σ 1 = σ 0 4 := rfl
theorem rf7 (σ : Blk) {i : Nat} (h : i < 6) : rf σ (2 + i) = σ 7 i := by
  unfold rf
  rw [if_neg (by omega), if_neg (by omega), if_pos (by omega), show 2 + i - 2 = i by omega]
theorem rf8 (σ : Blk) {i : Nat} (h : i < 2) : rf σ (8 + i) = σ 8 i := by
  unfold rf
  rw [if_neg (by omega), if_neg (by omega), if_neg (by omega), show 8 + i - 8 = i by omega]
theorem RF.congr {σ σ' : Blk} {nb : Nat} (h : RF σ nb) (h0 : σ' 0 3 = σ 0 3) (h1 : σ' 0 4 = σ 0 4) (h7 : σ' 7 = σ 7) (h8 : σ' 8 = σ 8) : RF σ' nb := by
  have e : rf σ' = rf σ := by
    funext i
    unfold rf
    rw [h0, h1, h7, h8]
  unfold RF
  rw [e]
  exact h
/-- a null reference is set to a new Book -/
theorem RF.new {σ σ' : Blk} {nb k : Nat} (h : RF σ nb) (hk : k < 10) (hz : rf σ k < 0) (e : ∀ i, i < 10 → rf σ' i = if i = k then (nb : Int) else rf σ i) : RF σ' (nb + 1) := by
  obtain ⟨h0, h1, h2, h3, h4⟩ := h
  have k0 : k ≠ 0 := fun z => by rw [z] at hz; omega
  have k1 : k ≠ 1 := fun z => by rw [z] at hz; omega
  refine ⟨by rw [e 0 (by omega), if_neg (by omega)]; exact h0, by rw [e 1 (by omega), if_neg (by omega)]; exact h1, fun i hi => ?_, fun i j hi hj hne hp => ?_, ?_⟩
  · rw [e i hi]
    have := h2 i hi
    split <;> omega
  · rw [e i hi] at hp ⊢
    rw [e j hj]
    by_cases e1 : i = k
    · rw [if_pos e1, if_neg (by omega)]
      have := h2 j hj
      omega
    · rw [if_neg e1] at hp ⊢
      by_cases e2 : j = k
      · rw [if_pos e2]
        have := h2 i hi
        omega
      · rw [if_neg e2]
        exact h3 i j hi hj hne hp
  · have h5 := sumN_one (f := fun i => if rf σ i < 0 then 1 else 0) (g := fun i => if rf σ' i < 0 then 1 else 0) hk (fun i hi hne => by
      show (if rf σ' i < 0 then (1 : Int) else 0) = if rf σ i < 0 then 1 else 0
      rw [e i hi, if_neg hne])
    rw [h5, if_pos hz, e k hk, if_pos rfl, if_neg (by omega)]
    omega
theorem RF.nb {σ : Blk} {nb : Nat} (h : RF σ nb) : nb ≤ 10 := by
  have h1 := bit_rng (P := fun i => rf σ i < 0) 10
  have h2 := h.2.2.2.2
  omega
theorem ub_s {B : Nat → Blk} {k : Nat} {β : Blk} : ub B k β k = β := if_pos rfl
theorem ub_n {B : Nat → Blk} {k j : Nat} {β : Blk} (h : j ≠ k) : ub B k β j = B j := if_neg h
theorem cbU_t {α : Type} {β : Blk} {B : Nat → Blk} {k : Nat} {K : (Nat → Blk) → Option α} : cbU (some β) B k K = K (ub B k β) := rfl
theorem cbW_t {α : Type} {v : Int} {β : Blk} {B : Nat → Blk} {k : Nat} {K : Int → (Nat → Blk) → Option α} : cbW (some (v, β)) B k K = K v (ub B k β) := rfl
theorem cpW_t {α : Type} {v : Int} {π σ : Blk} {K : Int → Blk → Option α} : cpW (some (v, π)) σ K = K v (ipad σ π) := rfl
theorem bd3_t {α : Type} {σ : Blk} {B : Nat → Blk} {n : Nat} {K : Blk → (Nat → Blk) → Nat → Option α} : bd3 (some (σ, B, n)) K = K σ B n := rfl
theorem bd4_t {α : Type} {v : Int} {σ : Blk} {B : Nat → Blk} {n : Nat} {K : Int → Blk → (Nat → Blk) → Nat → Option α} : bd4 (some (v, σ, B, n)) K = K v σ B n := rfl
theorem bp_t {α : Type} {B : Nat → Blk} {k i f : Nat} {a : Int} {K : (Nat → Blk) → Option α} : bp B k i f a K = K (ub B k (up2 (B k) i f a)) := rfl
theorem ne_t {α : Type} {a b : Nat} {K : Option α} (h : a ≠ b) : ne a b K = K := if_neg h
theorem lk_t {α : Type} {a b : Nat} {K : Option α} (h : a < b) : lk a b K = K := if_pos h
theorem nB_t {α : Type} {β : Blk} (h : f_X0_init = some β) {B : Nat → Blk} {nb : Nat} {K : (Nat → Blk) → Nat → Option α} : nB B nb K = K (ub B nb β) (nb + 1) := by
  unfold nB
  rw [h, bs]
def HI (σ : Blk) (B : Nat → Blk) (τ : Blk) : Prop := σ 6 1 = τ 0 4 ∧ (0 ≤ τ 0 4 ∧ τ 0 4 ≤ 6) ∧ (0 ≤ σ 6 2 ∧ σ 6 2 < 6) ∧ ∀ i : Nat, (i : Int) < τ 0 4 → 0 ≤ σ 7 (((σ 6 2).toNat + i) % 6) ∧ RB (B (σ 7 (((σ 6 2).toNat + i) % 6)).toNat) (fun j => τ 4 (763 * i + j))
def SV (σ : Blk) (B : Nat → Blk) (τ : Blk) : Prop := ∀ i, i < 2 → (σ 8 i < 0 ∧ τ 6 i = 0) ∨ (0 ≤ σ 8 i ∧ τ 6 i = 1 ∧ RB (B (σ 8 i).toNat) (fun j => τ 5 (763 * i + j)))
def PD (σ τ : Blk) : Prop := σ 1 1 = τ 0 8 ∧ (0 ≤ τ 0 8 ∧ τ 0 8 ≤ 80) ∧ (∀ j : Nat, (j : Int) < τ 0 8 → σ 2 j = τ 7 j ∧ 0 ≤ σ 2 j ∧ σ 2 j ≤ 255) ∧ TL τ
