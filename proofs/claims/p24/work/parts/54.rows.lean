/-! PURE: the rows' parts; which rows there are -/
def pt (s : Nat → Int) (r k : Nat) : Int := s (3 + (12 * r + k))
/-- what the model's helpers leave alone: all but the rows 1, 3, 9 and the count of pieces -/
def Fx (τ τ' : Blk) : Prop := (∀ c, c ≠ 0 → c ≠ 1 → c ≠ 3 → c ≠ 9 → τ' c = τ c) ∧ ∀ j, j ≠ 12 → τ' 0 j = τ 0 j
theorem Fx.rf {τ : Blk} : Fx τ τ := ⟨fun _ _ _ _ _ => rfl, fun _ _ => rfl⟩
theorem Fx.tr {τ τ' τ'' : Blk} (h : Fx τ τ') (h2 : Fx τ' τ'') : Fx τ τ'' := ⟨fun c a b d e => (h2.1 c a b d e).trans (h.1 c a b d e), fun j hj => (h2.2 j hj).trans (h.2 j hj)⟩
theorem Fx.up {τ : Blk} {c k : Nat} {v : Int} (h : c = 1 ∨ c = 3 ∨ c = 9 ∨ (c = 0 ∧ k = 12)) : Fx τ (up2 τ c k v) := by
  refine ⟨fun i h0 h1 h3 h9 => up2_ne (by omega), fun j hj => up2_n (by omega)⟩
theorem x5_part {σ : Blk} {x a : Int} (r k : Nat) (hx : x = (r : Int)) (ha : a = (k : Int)) (hr : r < 30) (hk : k < 12) : f_X5_part σ x a = some (pt (σ 1) r k) := by
  unfold f_X5_part
  rw [ld_t (3 + (12 * r + k)) (by omega) (by omega), bs]
  rfl
theorem x5_setPart {σ : Blk} {x a v : Int} (r k : Nat) (hx : x = (r : Int)) (ha : a = (k : Int)) (hr : r < 30) (hk : k < 12) : f_X5_setPart σ x a v = some (up2 σ 1 (3 + (12 * r + k)) v) := by
  unfold f_X5_setPart
  rw [sw_t (3 + (12 * r + k)) (by omega) (by omega), bs]
theorem pt_us {s : Nat → Int} {r k r' k' : Nat} {v : Int} (hk : k < 12) (hk' : k' < 12) : pt (us s (3 + (12 * r + k)) v) r' k' = if r' = r ∧ k' = k then v else pt s r' k' := by
  unfold pt us
  by_cases h : r' = r ∧ k' = k
  · rw [if_pos h, if_pos (by omega)]
  · rw [if_neg h, if_neg (by omega)]
theorem pt_us2 {s : Nat → Int} {j r k : Nat} {v : Int} (h : j < 3 ∨ 363 ≤ j) (hr : r < 30) (hk : k < 12) : pt (us s j v) r k = pt s r k := by
  unfold pt us
  rw [if_neg (by omega)]
def RW (β : Blk) (s : Nat → Int) : Prop :=
  (∀ r, r < 30 → (pt s r 0 = 1 ∧ 0 ≤ pt s r 1 ∧ pt s r 1 < 100 ∧ β 7 r = pt s r 1 ∧ β 6 (pt s r 1).toNat = r) ∨ (pt s r 0 = 0 ∧ β 7 r = -1)) ∧
  (∀ k, k < 100 → β 6 k = -1 ∨ ∃ r : Nat, r < 30 ∧ β 6 k = r ∧ pt s r 0 = 1 ∧ pt s r 1 = k) ∧ s 2 = sumN (fun r => pt s r 0) 30
def rk (β : Blk) (a : Int) : Int := if 0 ≤ a ∧ a < 100 then β 6 a.toNat else -1
theorem x0_rowOf {β : Blk} {s : Nat → Int} (h : RW β s) {a : Int} : f_X0_rowOf β a = some (rk β a) := by
  unfold f_X0_rowOf rk
  by_cases e : a < 0
  · rw [if_pos e, if_neg (by omega)]
  · rw [if_neg e]
    by_cases h2 : a < 100
    · rw [if_pos h2, ld_t a.toNat (by omega) (by omega), bs, if_pos (show 0 ≤ a ∧ a < 100 by omega)]
      rcases h.2.1 a.toNat (by omega) with h3 | ⟨r, h3, h4, -⟩
      · rw [if_pos (show β 6 a.toNat < 0 by omega), h3]
      · rw [if_neg (show ¬ β 6 a.toNat < 0 by omega), if_pos (show β 6 a.toNat < 30 by omega)]
    · rw [if_neg h2, if_neg (by omega)]
theorem RW.key {β : Blk} {s : Nat → Int} (h : RW β s) (a : Int) : rk β a = -1 ∨ ∃ r : Nat, r < 30 ∧ rk β a = r ∧ pt s r 0 = 1 ∧ pt s r 1 = a ∧ β 7 r = a := by
  unfold rk
  split
  · rename_i h1
    rcases h.2.1 a.toNat (by omega) with h2 | ⟨r, h2, h3, h4, h5⟩
    · exact Or.inl h2
    · refine Or.inr ⟨r, h2, h3, h4, by omega, ?_⟩
      rcases h.1 r h2 with h6 | h6
      · rw [h6.2.2.2.1]; omega
      · omega
  · exact Or.inl rfl
theorem RW.of {β : Blk} {s : Nat → Int} (h : RW β s) {r : Nat} (hr : r < 30) (h1 : pt s r 0 = 1) : rk β (pt s r 1) = r ∧ 0 ≤ pt s r 1 ∧ pt s r 1 < 100 ∧ β 7 r = pt s r 1 := by
  rcases h.1 r hr with h2 | h2
  · unfold rk
    rw [if_pos ⟨h2.2.1, h2.2.2.1⟩]
    exact ⟨h2.2.2.2.2, h2.2.1, h2.2.2.1, h2.2.2.2.1⟩
  · omega
theorem RW.is {β : Blk} {s : Nat → Int} (h : RW β s) {r : Nat} (hr : r < 30) : pt s r 0 = 0 ∨ pt s r 0 = 1 := by
  rcases h.1 r hr with h2 | h2
  · exact Or.inr h2.1
  · exact Or.inl h2.1
theorem x5_rowWith {β σ : Blk} (h : RW β (σ 1)) {a : Int} : f_X5_rowWith σ a = some (if rk β a = -1 then -6 else rk β a) := by
  let v : Nat → Int := fun x => if 0 ≤ rk β a ∧ rk β a < x then rk β a else -6
  have key := loopUp (F := fun n x => f_X5_rowWith_L5 σ a n (v x) (x : Int)) (R := some (v 30)) 30 (fun n x hx => ?_) (fun n => ?_) fu 0 (by omega) (fu_lt (by omega))
  · have e0 : v 0 = -6 := if_neg (by omega)
    rw [e0] at key
    refine key.trans ?_
    congr 1
    rcases h.key a with h1 | ⟨r, h1, h2, -⟩
    · rw [if_pos h1]; exact if_neg (by omega)
    · rw [if_neg (by omega)]; exact if_pos (by omega)
  · show f_X5_rowWith_L5 _ _ _ _ _ = f_X5_rowWith_L5 _ _ _ _ _
    rw [f_X5_rowWith_L5, if_neg (by omega), x5_part x 0 rfl (by omega) hx (by omega), bs]
    dsimp only [jp]
    have hv : ∀ u : Int, (u = if rk β a = x then (x : Int) else v x) → u = v (x + 1) := by
      intro u hu
      rw [hu]
      show _ = if 0 ≤ rk β a ∧ rk β a < ((x + 1 : Nat) : Int) then rk β a else -6
      by_cases e : rk β a = x
      · rw [if_pos e, if_pos (by omega)]; exact e.symm
      · rw [if_neg e]
        show (if 0 ≤ rk β a ∧ rk β a < (x : Int) then rk β a else -6) = _
        by_cases e2 : 0 ≤ rk β a ∧ rk β a < (x : Int)
        · rw [if_pos e2, if_pos (by omega)]
        · rw [if_neg e2, if_neg (by omega)]
    by_cases e : pt (σ 1) x 0 ≠ 1
    · rw [if_pos e, ck_t (by omega), bs, hv (v x) (by
        rw [if_neg (fun z => ?_)]
        rcases h.key a with h1 | ⟨r, h1, h2, h3, h4⟩
        · omega
        · have : r = x := by omega
          subst this
          omega)]
      rfl
    · rw [if_neg e, x5_part x 1 rfl (by omega) hx (by omega), bs]
      have h5 := h.of hx (by omega)
      by_cases e2 : pt (σ 1) x 1 ≠ a
      · rw [if_pos e2, ck_t (by omega), bs, hv (v x) (by
          rw [if_neg (fun z => ?_)]
          rcases h.key a with h1 | ⟨r, h1, h2, h3, h4, -⟩
          · omega
          · have : r = x := by omega
            subst this
            omega)]
        rfl
      · have hu := hv (x : Int) (by
          rw [if_pos ?_]
          have : pt (σ 1) x 1 = a := by omega
          rw [← this]
          exact h5.1)
        rw [if_neg e2, ck_t (by omega), bs]
        exact congrArg (fun u => f_X5_rowWith_L5 σ a n u ((x : Int) + 1)) hu
  · show f_X5_rowWith_L5 _ _ _ _ _ = _
    rw [f_X5_rowWith_L5, if_pos (by omega)]
/-- the lowest row that isn't, 30 if there is none -/
def fz (s : Nat → Int) : Nat := firstZ (fun r => pt s r 0) 30 0
theorem fz_lt {β : Blk} {s : Nat → Int} (h : RW β s) : fz s < 30 ↔ s 2 ≠ 30 := by
  rw [h.2.2]
  have hle : ∀ g : Nat → Int, (∀ i, i < 30 → g i ≤ 1) → sumN g 30 ≤ 30 := fun g hg => by
    have := sumN_le (f := g) (n := 30) (b := 1) hg
    omega
  constructor
  · intro h1
    have h2 := firstZ_z (f := fun r => pt s r 0) 30 0 h1
    have h3 := sumN_one (f := fun r => pt s r 0) (g := fun r => if r = fz s then 1 else pt s r 0) h1 (fun i _ hne => if_neg hne)
    have h4 := hle (fun r => if r = fz s then 1 else pt s r 0) (fun i hi => by
      show (if i = fz s then 1 else pt s i 0) ≤ 1
      split
      · omega
      · have := h.is hi; omega)
    have h5 : pt s (fz s) 0 = 0 := h2
    simp only [if_true] at h3
    omega
  · intro h1
    rcases Nat.lt_or_ge (fz s) 30 with h2 | h2
    · exact h2
    · exfalso
      apply h1
      rw [sumN_congr (g := fun _ => 1) (fun i hi => by
        have h3 := firstZ_nz (f := fun r => pt s r 0) 30 0 i (by omega) (by unfold fz at h2; omega)
        have h4 := h.is hi
        show pt s i 0 = 1
        have h5 : pt s i 0 ≠ 0 := h3
        omega)]
      decide
theorem x5_freeRow {σ : Blk} (h : fz (σ 1) < 30) : f_X5_freeRow σ = some (fz (σ 1) : Int) := by
  let f : Nat → Int := fun r => pt (σ 1) r 0
  let v : Nat → Int := fun x => if firstZ f (30 - x) x < 30 then (firstZ f (30 - x) x : Int) else -6
  have key := loopDn (F := fun n x => f_X5_freeRow_L6 σ n (v x) ((x : Int) - 1)) (R := some (v 0)) 30 (fun n x hx => ?_) (fun n => ?_) fu 30 (Nat.le_refl _) (fu_lt (by omega))
  · have e : v 0 = (fz (σ 1) : Int) := if_pos h
    rw [e] at key
    exact key
  · show f_X5_freeRow_L6 _ _ _ _ = f_X5_freeRow_L6 _ _ _ _
    rw [f_X5_freeRow_L6, if_neg (by omega), x5_part x 0 (by omega) (by omega) hx (by omega), bs]
    dsimp only [jp]
    have e1 : firstZ f (30 - x) x = if f x = 0 then x else firstZ f (30 - (x + 1)) (x + 1) := by
      rw [show 30 - x = (30 - (x + 1)) + 1 by omega]
      rfl
    have e2 : v x = if f x = 0 then (x : Int) else v (x + 1) := by
      show (if firstZ f (30 - x) x < 30 then (firstZ f (30 - x) x : Int) else -6) = _
      rw [e1]
      by_cases e : f x = 0
      · simp only [e, if_true]
        rw [if_pos (by omega)]
      · simp only [e, if_false]
        rfl
    rw [e2]
    by_cases e : f x = 0
    · rw [if_neg (by show ¬ (f x ≠ 0); simp [e]), if_pos e, ck_t (by omega), bs]
      congr 1 <;> omega
    · rw [if_pos (by exact e), if_neg e, ck_t (by omega), bs]
      congr 1 <;> omega
  · show f_X5_freeRow_L6 _ _ _ _ = _
    rw [f_X5_freeRow_L6, if_pos (by omega)]
def addB (β : Blk) (r : Nat) (a : Int) : Blk := up2 (up2 (up2 β 7 r a) 6 a.toNat r) 0 2 (β 0 2 + 1)
def addS (s : Nat → Int) (r : Nat) (a : Int) : Nat → Int := us (us (us s (3 + (12 * r + 0)) 1) (3 + (12 * r + 1)) a) 2 (s 2 + 1)
theorem x0_addRow {β : Blk} {s : Nat → Int} (h : RW β s) {a : Int} (ha : 0 ≤ a ∧ a < 100) (h2 : β 0 2 = s 2) : f_X0_addRow β a = some (if fz s < 30 then ((fz s : Int), addB β (fz s) a) else (-1, β)) := by
  let f : Nat → Int := fun r => pt s r 0
  have hs2 : 0 ≤ s 2 ∧ s 2 ≤ 30 := by
    rw [h.2.2]
    constructor
    · exact sumN_nonneg (fun i hi => by show 0 ≤ pt s i 0; have := h.is hi; omega)
    · have := sumN_le (f := fun r => pt s r 0) (n := 30) (b := 1) (fun i hi => by show pt s i 0 ≤ 1; have := h.is hi; omega)
      omega
  have key : ∀ (n x : Nat), x ≤ 30 → 30 - x < n → firstZ f (30 - x) x = fz s → f_X0_addRow_L2 β a n (x : Int) = some (if fz s < 30 then ((fz s : Int), addB β (fz s) a) else (-1, β)) := by
    intro n
    induction n with
    | zero => intro x _ h; omega
    | succ n ih =>
      intro x hx hn hg
      rw [f_X0_addRow_L2]
      by_cases e : x = 30
      · subst e
        have hg' : 30 = fz s := hg
        rw [if_pos (by omega), if_neg (by omega)]
      · rw [if_neg (by omega), ld_t x rfl (by omega), bs]
        rw [show 30 - x = (30 - (x + 1)) + 1 by omega] at hg
        unfold firstZ at hg
        by_cases e2 : f x = 0
        · rw [if_pos e2] at hg
          subst hg
          have h7 : β 7 (fz s) = -1 := by
            rcases h.1 (fz s) (by omega) with h8 | h8
            · have : pt s (fz s) 0 = 0 := e2
              omega
            · exact h8.2
          rw [if_neg (by omega), sw_t (fz s) rfl (by omega), bs, sw_t a.toNat (by omega) (by omega), bs]
          have e3 : up2 (up2 β 7 (fz s) a) 6 a.toNat (fz s) 0 2 = β 0 2 := by rw [up2_n (by omega), up2_n (by omega)]
          rw [e3, ck_t (by omega), bs, if_pos (by omega)]
          rfl
        · rw [if_neg e2] at hg
          have h7 : β 7 x ≠ -1 := by
            rcases h.1 x (by omega) with h8 | h8
            · omega
            · exact absurd h8.1 e2
          rw [if_pos h7, ck_t (by omega), bs]
          exact ih (x + 1) (by omega) (by omega) hg
  exact key fu 0 (by omega) (fu_lt (by omega)) rfl
theorem pt_addS {s : Nat → Int} {r : Nat} {a : Int} (hr : r < 30) {x k : Nat} (hx : x < 30) (hk : k < 12) : pt (addS s r a) x k = if x = r then (if k = 0 then 1 else if k = 1 then a else pt s x k) else pt s x k := by
  unfold addS
  rw [pt_us2 (by omega) hx hk, pt_us (by omega) hk, pt_us (by omega) hk]
  by_cases e : x = r
  · rw [if_pos e]
    by_cases e1 : k = 1
    · rw [if_pos ⟨e, e1⟩, if_neg (by omega), if_pos e1]
    · rw [if_neg (by omega)]
      by_cases e0 : k = 0
      · rw [if_pos ⟨e, e0⟩, if_pos e0]
      · rw [if_neg (by omega), if_neg e0, if_neg e1]
  · rw [if_neg e, if_neg (by omega), if_neg (by omega)]
theorem RW.add {β : Blk} {s : Nat → Int} (h : RW β s) {a : Int} (ha : 0 ≤ a ∧ a < 100) (hz : fz s < 30) (hn : rk β a = -1) : RW (addB β (fz s) a) (addS s (fz s) a) := by
  have h0 : pt s (fz s) 0 = 0 := firstZ_z (f := fun r => pt s r 0) 30 0 hz
  have hb : β 6 a.toNat = -1 := by unfold rk at hn; rw [if_pos ha] at hn; exact hn
  generalize fz s = r at *
  have e7 : ∀ x, addB β r a 7 x = if x = r then a else β 7 x := fun x => by
    unfold addB
    rw [up2_n (by omega), up2_n (by omega), up2_v]
    by_cases e : x = r
    · rw [if_pos ⟨rfl, e⟩, if_pos e]
    · rw [if_neg (by omega), if_neg e]
  have e6 : ∀ x, addB β r a 6 x = if x = a.toNat then (r : Int) else β 6 x := fun x => by
    unfold addB
    rw [up2_n (by omega), up2_v]
    by_cases e : x = a.toNat
    · rw [if_pos ⟨rfl, e⟩, if_pos e]
    · rw [if_neg (by omega), if_neg e, up2_n (by omega)]
  refine ⟨fun x hx => ?_, fun k hk => ?_, ?_⟩
  · rw [pt_addS hz hx (by omega), pt_addS hz hx (by omega), e7, e6]
    by_cases e : x = r
    · subst e
      rw [if_pos rfl, if_pos rfl, if_pos rfl, if_pos rfl, if_neg (by omega), if_pos rfl, if_pos rfl]
      exact Or.inl ⟨rfl, ha.1, ha.2, rfl, rfl⟩
    · rw [if_neg e, if_neg e, if_neg e]
      rcases h.1 x hx with h1 | h1
      · refine Or.inl ⟨h1.1, h1.2.1, h1.2.2.1, h1.2.2.2.1, ?_⟩
        rw [if_neg (fun z => by rw [z, hb] at h1; omega)]
        exact h1.2.2.2.2
      · exact Or.inr h1
  · rw [e6]
    by_cases e : k = a.toNat
    · rw [if_pos e]
      refine Or.inr ⟨r, hz, rfl, ?_, ?_⟩
      · rw [pt_addS hz hz (by omega), if_pos rfl, if_pos rfl]
      · rw [pt_addS hz hz (by omega), if_pos rfl, if_neg (by omega), if_pos rfl]; omega
    · rw [if_neg e]
      rcases h.2.1 k hk with h1 | ⟨x, h1, h2, h3, h4⟩
      · exact Or.inl h1
      · have hne : x ≠ r := fun z => by rw [z] at h3; omega
        refine Or.inr ⟨x, h1, h2, ?_, ?_⟩
        · rw [pt_addS hz h1 (by omega), if_neg hne]; exact h3
        · rw [pt_addS hz h1 (by omega), if_neg hne]; exact h4
  · have h1 := sumN_one (f := fun x => pt s x 0) (g := fun x => pt (addS s r a) x 0) hz (fun i hi hne => by
      show pt (addS s r a) i 0 = _
      rw [pt_addS hz hi (by omega), if_neg hne])
    rw [h1, pt_addS hz hz (by omega), if_pos rfl, if_pos rfl, h0, ← h.2.2]
    unfold addS
    rw [us_s]
    omega
