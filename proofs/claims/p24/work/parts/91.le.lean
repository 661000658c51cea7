/-! BRIDGE: the class's pictures beside the middle terms: where a middle term comes to x, the class's picture comes to y with R y x -/
def Le {α γ : Type} (R : γ → α → Prop) (f : Option α) (g : Option γ) : Prop := ∀ x, f = some x → ∃ y, g = some y ∧ R y x
abbrev LeI (f g : Option Int) : Prop := Le (fun y x => y = x) f g
abbrev LeB (f g : Option Blk) : Prop := Le (fun y x => VW y = x) f g
def RW2 (y x : Int × Blk) : Prop := y.1 = x.1 ∧ VW y.2 = x.2
abbrev LeW (f g : Option (Int × Blk)) : Prop := Le RW2 f g
section LE
variable {α γ α' γ' : Type} {R : γ → α → Prop} {S : γ' → α' → Prop} {f : Option α} {g : Option γ}
theorem le_none : Le R none g := fun x h => by cases h
theorem le_ret {x : α} {y : γ} (h : R y x) : Le R (some x) (some y) := fun z hz => by cases hz; exact ⟨_, rfl, h⟩
theorem le_rf {f : Option α} : Le (fun y x => y = x) f f := fun x h => ⟨x, h, rfl⟩
theorem le_bind {F : α → Option α'} {G : γ → Option γ'} (h : Le R f g) (k : ∀ x y, R y x → Le S (F x) (G y)) : Le S (f.bind F) (g.bind G) := fun z hz => by
  obtain ⟨x, h1, h2⟩ := Option.bind_eq_some_iff.mp hz
  obtain ⟨y, h3, h4⟩ := h x h1
  rw [h3]
  exact k x y h4 z h2
theorem le_fbind {β : Type} {x : Option β} {K : β → Option α} (h : ∀ y, x = some y → Le R (K y) g) : Le R (x.bind K) g := fun z hz => by
  obtain ⟨y, h1, h2⟩ := Option.bind_eq_some_iff.mp hz
  exact h y h1 z h2
theorem le_ld {σ : Blk} {c n : Nat} {i : Int} {K : Int → Option α} (h : ∀ q : Nat, i = (q : Int) → q < n → Le R (K (σ c q)) g) : Le R ((ld σ c n i).bind K) g := le_fbind fun y hy => by
  unfold ld at hy
  split at hy
  · rename_i h1
    cases hy
    exact h i.toNat (by omega) (by omega)
  · cases hy
theorem le_sw {σ : Blk} {c n : Nat} {i v : Int} {K : Blk → Option α} (h : ∀ q : Nat, i = (q : Int) → q < n → Le R (K (up2 σ c q v)) g) : Le R ((sw σ c n i v).bind K) g := le_fbind fun y hy => by
  unfold sw at hy
  split at hy
  · rename_i h1
    cases hy
    exact h i.toNat (by omega) (by omega)
  · cases hy
theorem le_ck {a : Int} {K : Int → Option α} (h : inR a → Le R (K a) g) : Le R ((ck a).bind K) g := le_fbind fun y hy => by
  unfold ck at hy
  split at hy
  · rename_i h1
    cases hy
    exact h h1
  · cases hy
theorem le_dv {a d : Int} {K : Int → Option α} (h : 0 ≤ a → Le R (K (a / d)) g) : Le R ((dv a d).bind K) g := le_fbind fun y hy => by
  unfold dv at hy
  split at hy
  · rename_i h1
    cases hy
    exact h h1
  · cases hy
theorem le_rm {a d : Int} {K : Int → Option α} (h : 0 ≤ a → Le R (K (a % d)) g) : Le R ((rm_ a d).bind K) g := le_fbind fun y hy => by
  unfold rm_ at hy
  split at hy
  · rename_i h1
    cases hy
    exact h h1
  · cases hy
theorem le_gd {j : Int} {n : Nat} {K : Option α} (h : 0 ≤ j → j < (n : Int) → Le R K g) : Le R (gd j n K) g := by
  unfold gd
  split
  · rename_i h1
    exact h h1.1 h1.2
  · exact le_none
theorem le_gk {a : Int} {nb : Nat} {K : Nat → Option α} (h : ∀ q : Nat, a = (q : Int) → q < nb → Le R (K q) g) : Le R (gk a nb K) g := by
  unfold gk
  split
  · rename_i h1
    exact h a.toNat (by omega) (by omega)
  · exact le_none
theorem le_ne {a b : Nat} {K : Option α} (h : a ≠ b → Le R K g) : Le R (ne a b K) g := by
  unfold ne
  split
  · exact le_none
  · exact h (by assumption)
theorem le_lk {a b : Nat} {K : Option α} (h : a < b → Le R K g) : Le R (lk a b K) g := by
  unfold lk
  split
  · exact h (by assumption)
  · exact le_none
theorem le_ite {φ : Prop} [Decidable φ] {K1 K2 : Option α} {G1 G2 : Option γ} (h1 : φ → Le R K1 G1) (h2 : ¬ φ → Le R K2 G2) : Le R (if φ then K1 else K2) (if φ then G1 else G2) := by
  by_cases h : φ
  · rw [if_pos h, if_pos h]; exact h1 h
  · rw [if_neg h, if_neg h]; exact h2 h
theorem le_iteL {φ : Prop} [Decidable φ] {K1 K2 : Option α} (h1 : φ → Le R K1 g) (h2 : ¬ φ → Le R K2 g) : Le R (if φ then K1 else K2) g := by
  by_cases h : φ
  · rw [if_pos h]; exact h1 h
  · rw [if_neg h]; exact h2 h
/-- what a middle term's first step says of its index, the step still to come -/
theorem le_ldr {σ : Blk} {c n : Nat} {i : Int} {K : Int → Option α} (h : 0 ≤ i → i < (n : Int) → Le R ((ld σ c n i).bind K) g) : Le R ((ld σ c n i).bind K) g := by
  by_cases h1 : 0 ≤ i ∧ i < (n : Int)
  · exact h h1.1 h1.2
  · unfold ld
    rw [if_neg h1]
    exact le_none
theorem le_swr {σ : Blk} {c n : Nat} {i v : Int} {K : Blk → Option α} (h : 0 ≤ i → i < (n : Int) → Le R ((sw σ c n i v).bind K) g) : Le R ((sw σ c n i v).bind K) g := by
  by_cases h1 : 0 ≤ i ∧ i < (n : Int)
  · exact h h1.1 h1.2
  · unfold sw
    rw [if_neg h1]
    exact le_none
/-! the same step on both sides -/
theorem le_ck2 {a : Int} {K : Int → Option α} {K' : Int → Option γ} (h : inR a → Le R (K a) (K' a)) : Le R ((ck a).bind K) ((ck a).bind K') := le_ck fun h1 => by
  rw [ck_t h1]
  exact h h1
theorem le_dv2 {a d : Int} {K : Int → Option α} {K' : Int → Option γ} (h : 0 ≤ a → Le R (K (a / d)) (K' (a / d))) : Le R ((dv a d).bind K) ((dv a d).bind K') := le_dv fun h1 => by
  rw [dv_t h1]
  exact h h1
theorem le_rm2 {a d : Int} {K : Int → Option α} {K' : Int → Option γ} (h : 0 ≤ a → Le R (K (a % d)) (K' (a % d))) : Le R ((rm_ a d).bind K) ((rm_ a d).bind K') := le_rm fun h1 => by
  rw [rm_t h1]
  exact h h1
theorem le_nm2 {a : Int} {K : Int → Option α} {K' : Int → Option γ} (h : Le R (K a) (K' a)) : Le R (nm a K) (nm a K') := h
theorem le_gk2 {a : Int} {nb : Nat} {K : Nat → Option α} {K' : Nat → Option γ} (h : ∀ q : Nat, a = (q : Int) → q < nb → Le R (K q) (K' q)) : Le R (gk a nb K) (gk a nb K') := le_gk fun q e hq => by
  rw [gk_t e hq]
  exact h q e hq
theorem le_ne2 {a b : Nat} {K : Option α} {K' : Option γ} (h : a ≠ b → Le R K K') : Le R (ne a b K) (ne a b K') := le_ne fun h1 => by
  rw [ne_t h1]
  exact h h1
theorem le_lk2 {a b : Nat} {K : Option α} {K' : Option γ} (h : a < b → Le R K K') : Le R (lk a b K) (lk a b K') := le_lk fun h1 => by
  rw [lk_t h1]
  exact h h1
theorem le_ld2 {σ : Blk} {c n : Nat} {i : Int} {K : Int → Option α} {K' : Int → Option γ} (h : ∀ q : Nat, i = (q : Int) → q < n → Le R (K (σ c q)) (K' (σ c q))) : Le R ((ld σ c n i).bind K) ((ld σ c n i).bind K') := le_ld fun q e hq => by
  rw [ld_t q e hq]
  exact h q e hq
theorem le_sw2 {σ : Blk} {c n : Nat} {i v : Int} {K : Blk → Option α} {K' : Blk → Option γ} (h : ∀ q : Nat, i = (q : Int) → q < n → Le R (K (up2 σ c q v)) (K' (up2 σ c q v))) : Le R ((sw σ c n i v).bind K) ((sw σ c n i v).bind K') := le_sw fun q e hq => by
  rw [sw_t q e hq]
  exact h q e hq
theorem le_bindI {f g : Option Int} {K : Int → Option α} {K' : Int → Option γ} (h : LeI f g) (k : ∀ v, Le R (K v) (K' v)) : Le R (f.bind K) (g.bind K') := le_bind h fun x y e => by subst e; exact k _
theorem le_bindB {f g : Option Blk} {K : Blk → Option α} {K' : Blk → Option γ} (h : LeB f g) (k : ∀ β, Le R (K (VW β)) (K' β)) : Le R (f.bind K) (g.bind K') := le_bind h fun x y e => by subst e; exact k _
theorem le_bd2 {f g : Option (Int × Blk)} {K : Int → Blk → Option α} {K' : Int → Blk → Option γ} (h : LeW f g) (k : ∀ v β, Le R (K v (VW β)) (K' v β)) : Le R (bd2 f K) (bd2 g K') := le_bind h fun x y e => by
  obtain ⟨e1, e2⟩ := e
  show Le R (K x.1 x.2) (K' y.1 y.2)
  rw [← e1, ← e2]
  exact k _ _
end LE
/-! the class's own looks at an index -/
theorem at_t {σ : Blk} {c n : Nat} {i : Int} (q : Nat) (h : i = (q : Int)) (hq : q < n) : g_X4_at σ c n i = some (σ c q) := by
  unfold g_X4_at
  rw [if_neg (by omega), if_pos (by omega), ld_t q h hq, bs]
theorem at_o {σ : Blk} {c n : Nat} {i : Int} (h : i < 0 ∨ (n : Int) ≤ i) : g_X4_at σ c n i = some (-1) := by
  unfold g_X4_at
  by_cases h1 : i < 0
  · rw [if_pos h1]
  · rw [if_neg h1, if_neg (by omega)]
theorem st_t {σ : Blk} {c n : Nat} {i v : Int} (q : Nat) (h : i = (q : Int)) (hq : q < n) : g_X4_store σ c n i v = some (up2 σ c q v) := by
  unfold g_X4_store
  rw [if_neg (by omega), if_neg (by omega), sw_t q h hq, bs]
/-! what VW reads and where it is written -/
theorem vw_lo {β : Blk} {c : Nat} (h : c < 6) : VW β c = β c := by
  funext j
  unfold VW
  rw [if_pos h]
theorem vw_6 {β : Blk} : VW β 6 = β 7 := rfl
theorem vw_7 {β : Blk} {r : Nat} : VW β 7 r = β (8 + 3 * r) 0 := rfl
theorem vw_8 {β : Blk} {r : Nat} : VW β 8 r = β (8 + 3 * r) 1 := rfl
theorem vw_9 {β : Blk} {r : Nat} : VW β 9 r = β (8 + 3 * r) 2 := rfl
theorem vw_10 {β : Blk} {r : Nat} : VW β 10 r = β (8 + 3 * r) 3 := rfl
theorem vw_11 {β : Blk} {r : Nat} : VW β 11 r = β (8 + 3 * r) 4 := rfl
theorem vw_sp {β : Blk} {r : Nat} (hr : r < 30) : VW β (13 + r) = β (9 + 3 * r) := by
  funext j
  unfold VW
  rw [if_neg (by omega), if_neg (by omega), if_neg (by omega), if_neg (by omega), if_pos (by omega), Nat.add_sub_cancel_left]
theorem vw_tx {β : Blk} {r : Nat} : VW β (44 + r) = β (10 + 3 * r) := by
  funext j
  unfold VW
  rw [if_neg (by omega), if_neg (by omega), if_neg (by omega), if_neg (by omega), if_neg (by omega), if_neg (by omega), Nat.add_sub_cancel_left]
/-- VW, region by region -/
theorem VW_ext {β : Blk} {x : Blk} (h0 : ∀ c, c < 6 → ∀ j, β c j = x c j) (h6 : ∀ j, β 7 j = x 6 j) (h7 : ∀ k, k < 5 → ∀ j, β (8 + 3 * j) k = x (7 + k) j) (h12 : ∀ j, 0 = x 12 j) (h13 : ∀ r, r < 30 → ∀ j, β (9 + 3 * r) j = x (13 + r) j) (h43 : ∀ j, 0 = x 43 j) (h44 : ∀ r j, β (10 + 3 * r) j = x (44 + r) j) : VW β = x := by
  funext c j
  unfold VW
  by_cases e0 : c < 6
  · rw [if_pos e0]; exact h0 c e0 j
  rw [if_neg e0]
  by_cases e6 : c = 6
  · rw [if_pos e6, e6]; exact h6 j
  rw [if_neg e6]
  by_cases e7 : c < 12
  · rw [if_pos e7]
    have := h7 (c - 7) (by omega) j
    rw [show 7 + (c - 7) = c by omega] at this
    exact this
  rw [if_neg e7]
  by_cases e12 : c < 13
  · rw [if_pos e12, show c = 12 by omega]; exact h12 j
  rw [if_neg e12]
  by_cases e13 : c < 43
  · rw [if_pos e13]
    have := h13 (c - 13) (by omega) j
    rw [show 13 + (c - 13) = c by omega] at this
    exact this
  rw [if_neg e13]
  by_cases e43 : c < 44
  · rw [if_pos e43, show c = 43 by omega]; exact h43 j
  rw [if_neg e43]
  have := h44 (c - 44) j
  rw [show 44 + (c - 44) = c by omega] at this
  exact this
theorem vu_lo {β : Blk} {c k : Nat} {v : Int} (h : c < 6) : VW (up2 β c k v) = up2 (VW β) c k v := by
  refine VW_ext (fun i hi j => ?_) (fun j => ?_) (fun i hi j => ?_) (fun j => ?_) (fun r hr j => ?_) (fun j => ?_) (fun r j => ?_)
  · rw [up2_v, up2_v, vw_lo hi]
  · rw [up2_n (by omega), up2_n (by omega)]; rfl
  · rw [up2_n (by omega), up2_n (by omega)]
    rcases (show i = 0 ∨ i = 1 ∨ i = 2 ∨ i = 3 ∨ i = 4 by omega) with rfl | rfl | rfl | rfl | rfl <;> rfl
  · rw [up2_n (by omega)]; rfl
  · rw [up2_n (by omega), up2_n (by omega), vw_sp hr]
  · rw [up2_n (by omega)]; rfl
  · rw [up2_n (by omega), up2_n (by omega), vw_tx]
theorem vu_6 {β : Blk} {k : Nat} {v : Int} : VW (up2 β 7 k v) = up2 (VW β) 6 k v := by
  refine VW_ext (fun i hi j => ?_) (fun j => ?_) (fun i hi j => ?_) (fun j => ?_) (fun r hr j => ?_) (fun j => ?_) (fun r j => ?_)
  · rw [up2_n (by omega), up2_n (by omega), vw_lo hi]
  · rw [up2_v, up2_v, vw_6]
    by_cases e : j = k
    · rw [if_pos ⟨rfl, e⟩, if_pos ⟨rfl, e⟩]
    · rw [if_neg (by omega), if_neg (by omega)]
  · rw [up2_n (by omega), up2_n (by omega)]
    rcases (show i = 0 ∨ i = 1 ∨ i = 2 ∨ i = 3 ∨ i = 4 by omega) with rfl | rfl | rfl | rfl | rfl <;> rfl
  · rw [up2_n (by omega)]; rfl
  · rw [up2_n (by omega), up2_n (by omega), vw_sp hr]
  · rw [up2_n (by omega)]; rfl
  · rw [up2_n (by omega), up2_n (by omega), vw_tx]
theorem vu_row {β : Blk} {r k : Nat} {v : Int} (hk : k < 5) : VW (up2 β (8 + 3 * r) k v) = up2 (VW β) (7 + k) r v := by
  refine VW_ext (fun i hi j => ?_) (fun j => ?_) (fun i hi j => ?_) (fun j => ?_) (fun q hq j => ?_) (fun j => ?_) (fun q j => ?_)
  · rw [up2_n (by omega), up2_n (by omega), vw_lo hi]
  · rw [up2_n (by omega), up2_n (by omega)]; rfl
  · rw [up2_v, up2_v]
    by_cases e : j = r ∧ i = k
    · rw [if_pos (by omega), if_pos (by omega)]
    · rw [if_neg (by omega), if_neg (by omega)]
      rcases (show i = 0 ∨ i = 1 ∨ i = 2 ∨ i = 3 ∨ i = 4 by omega) with rfl | rfl | rfl | rfl | rfl <;> rfl
  · rw [up2_n (by omega)]; rfl
  · rw [up2_n (by omega), up2_n (by omega), vw_sp hq]
  · rw [up2_n (by omega)]; rfl
  · rw [up2_n (by omega), up2_n (by omega), vw_tx]
theorem vu_sp {β : Blk} {r k : Nat} {v : Int} (hr : r < 30) : VW (up2 β (9 + 3 * r) k v) = up2 (VW β) (13 + r) k v := by
  refine VW_ext (fun i hi j => ?_) (fun j => ?_) (fun i hi j => ?_) (fun j => ?_) (fun q hq j => ?_) (fun j => ?_) (fun q j => ?_)
  · rw [up2_n (by omega), up2_n (by omega), vw_lo hi]
  · rw [up2_n (by omega), up2_n (by omega)]; rfl
  · rw [up2_n (by omega), up2_n (by omega)]
    rcases (show i = 0 ∨ i = 1 ∨ i = 2 ∨ i = 3 ∨ i = 4 by omega) with rfl | rfl | rfl | rfl | rfl <;> rfl
  · rw [up2_n (by omega)]; rfl
  · rw [up2_v, up2_v, vw_sp hq]
    by_cases e : q = r ∧ j = k
    · rw [if_pos (by omega), if_pos (by omega)]
    · rw [if_neg (by omega), if_neg (by omega)]
  · rw [up2_n (by omega)]; rfl
  · rw [up2_n (by omega), up2_n (by omega), vw_tx]
theorem vu_tx {β : Blk} {r k : Nat} {v : Int} : VW (up2 β (10 + 3 * r) k v) = up2 (VW β) (44 + r) k v := by
  refine VW_ext (fun i hi j => ?_) (fun j => ?_) (fun i hi j => ?_) (fun j => ?_) (fun q hq j => ?_) (fun j => ?_) (fun q j => ?_)
  · rw [up2_n (by omega), up2_n (by omega), vw_lo hi]
  · rw [up2_n (by omega), up2_n (by omega)]; rfl
  · rw [up2_n (by omega), up2_n (by omega)]
    rcases (show i = 0 ∨ i = 1 ∨ i = 2 ∨ i = 3 ∨ i = 4 by omega) with rfl | rfl | rfl | rfl | rfl <;> rfl
  · rw [up2_n (by omega)]; rfl
  · rw [up2_n (by omega), up2_n (by omega), vw_sp hq]
  · rw [up2_n (by omega)]; rfl
  · rw [up2_v, up2_v, vw_tx]
    by_cases e : q = r ∧ j = k
    · rw [if_pos (by omega), if_pos (by omega)]
    · rw [if_neg (by omega), if_neg (by omega)]
section LEV
variable {α γ : Type} {R : γ → α → Prop} {g : Option γ}
theorem le_ldB {β : Blk} {c n : Nat} {i : Int} {K : Int → Option α} {K' : Int → Option γ} (hc : c < 6) (h : ∀ q : Nat, i = (q : Int) → q < n → Le R (K (β c q)) (K' (β c q))) : Le R ((ld (VW β) c n i).bind K) ((ld β c n i).bind K') := le_ld fun q e hq => by
  rw [ld_t q e hq, vw_lo hc]
  exact h q e hq
theorem le_swB {β : Blk} {c n : Nat} {i v : Int} {K : Blk → Option α} {K' : Blk → Option γ} (hc : c < 6) (h : ∀ q : Nat, i = (q : Int) → q < n → Le R (K (VW (up2 β c q v))) (K' (up2 β c q v))) : Le R ((sw (VW β) c n i v).bind K) ((sw β c n i v).bind K') := le_sw fun q e hq => by
  rw [sw_t q e hq, ← vu_lo hc]
  exact h q e hq
theorem le_atB {β : Blk} {c n : Nat} {i : Int} {K : Int → Option α} {K' : Int → Option γ} (hc : c < 6) (h : ∀ q : Nat, i = (q : Int) → q < n → Le R (K (β c q)) (K' (β c q))) : Le R ((ld (VW β) c n i).bind K) ((g_X4_at β c n i).bind K') := le_ld fun q e hq => by
  rw [at_t q e hq, vw_lo hc]
  exact h q e hq
theorem le_pfB {β : Blk} {c k : Nat} {v : Int} {K : Blk → Option α} {K' : Blk → Option γ} (hc : c < 6) (h : Le R (K (VW (up2 β c k v))) (K' (up2 β c k v))) : Le R (pf (VW β) c k v K) (pf β c k v K') := by
  rw [vu_lo hc] at h
  exact h
/-- numbers of rows by their keys -/
theorem le_st6 {β : Blk} {i v : Int} {K : Blk → Option α} {K' : Blk → Option γ} (h : ∀ q : Nat, i = (q : Int) → q < 100 → Le R (K (VW (up2 β 7 q v))) (K' (up2 β 7 q v))) : Le R ((sw (VW β) 6 100 i v).bind K) ((g_X4_store β 7 100 i v).bind K') := le_sw fun q e hq => by
  rw [st_t q e hq, bs, ← vu_6]
  exact h q e hq
/-- a row's parts -/
theorem le_lr {β : Blk} {c k r : Nat} (hk : k < 5) (hc : c = 7 + k) {K : Int → Option α} (h : r < 30 → Le R (K (β (8 + 3 * r) k)) g) : Le R ((ld (VW β) c 30 (r : Int)).bind K) g := le_ld fun q e hq => by
  have e1 : q = r := by omega
  subst e1
  subst hc
  have e2 : VW β (7 + k) q = β (8 + 3 * q) k := by
    rcases (show k = 0 ∨ k = 1 ∨ k = 2 ∨ k = 3 ∨ k = 4 by omega) with rfl | rfl | rfl | rfl | rfl <;> rfl
  rw [e2]
  exact h hq
theorem le_sr {β : Blk} {c k r : Nat} (hk : k < 5) (hc : c = 7 + k) {v : Int} {K : Blk → Option α} (h : r < 30 → Le R (K (VW (up2 β (8 + 3 * r) k v))) g) : Le R ((sw (VW β) c 30 (r : Int) v).bind K) g := le_sw fun q e hq => by
  have e1 : q = r := by omega
  subst e1
  subst hc
  rw [← vu_row hk]
  exact h hq
theorem le_atS {β : Blk} {r : Nat} {i : Int} {K : Int → Option α} {K' : Int → Option γ} (hr : r < 30) (h : ∀ q : Nat, i = (q : Int) → q < 40 → Le R (K (β (9 + 3 * r) q)) (K' (β (9 + 3 * r) q))) : Le R ((ld (VW β) (13 + r) 40 i).bind K) ((g_X4_at β (9 + 3 * r) 40 i).bind K') := le_ld fun q e hq => by
  rw [at_t q e hq, vw_sp hr]
  exact h q e hq
theorem le_atT {β : Blk} {r : Nat} {i : Int} {K : Int → Option α} {K' : Int → Option γ} (h : ∀ q : Nat, i = (q : Int) → q < 40 → Le R (K (β (10 + 3 * r) q)) (K' (β (10 + 3 * r) q))) : Le R ((ld (VW β) (44 + r) 40 i).bind K) ((g_X4_at β (10 + 3 * r) 40 i).bind K') := le_ld fun q e hq => by
  rw [at_t q e hq, vw_tx]
  exact h q e hq
theorem le_stS {β : Blk} {r : Nat} {i v : Int} {K : Blk → Option α} {K' : Blk → Option γ} (hr : r < 30) (h : ∀ q : Nat, i = (q : Int) → q < 40 → Le R (K (VW (up2 β (9 + 3 * r) q v))) (K' (up2 β (9 + 3 * r) q v))) : Le R ((sw (VW β) (13 + r) 40 i v).bind K) ((g_X4_store β (9 + 3 * r) 40 i v).bind K') := le_sw fun q e hq => by
  rw [st_t q e hq, bs, ← vu_sp hr]
  exact h q e hq
end LEV
