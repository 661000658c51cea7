/-! PURE: what the model reads off its row of things; s is its state (763 ints), thing q is s (363 + q) -/
def TK (s : Nat → Int) : Prop := ∀ q, q < 400 → tok (s (363 + q))
def fr (s : Nat → Int) (p : Nat) : Int := 40 - sumN (fun j => cl (s (363 + (40 * p + j)))) 40
def firstZ (f : Nat → Int) : Nat → Nat → Nat
  | 0, x => x
  | d + 1, x => if f x = 0 then x else firstZ f d (x + 1)
theorem firstZ_le (f : Nat → Int) : ∀ d x, firstZ f d x ≤ x + d
  | 0, x => Nat.le_refl _
  | d + 1, x => by
    unfold firstZ
    split
    · omega
    · have := firstZ_le f d (x + 1); omega
theorem firstZ_ge (f : Nat → Int) : ∀ d x, x ≤ firstZ f d x
  | 0, x => Nat.le_refl _
  | d + 1, x => by
    unfold firstZ
    split
    · omega
    · have := firstZ_ge f d (x + 1); omega
theorem firstZ_z {f : Nat → Int} : ∀ d x, firstZ f d x < x + d → f (firstZ f d x) = 0
  | 0, x => fun h => by simp [firstZ] at h
  | d + 1, x => fun h => by
    unfold firstZ at h ⊢
    split
    · assumption
    · rename_i h0
      rw [if_neg h0] at h
      exact firstZ_z d (x + 1) (by omega)
theorem firstZ_nz {f : Nat → Int} : ∀ d x i, x ≤ i → i < firstZ f d x → f i ≠ 0
  | 0, x, i => fun h1 h2 => by simp [firstZ] at h2; omega
  | d + 1, x, i => fun h1 h2 => by
    unfold firstZ at h2
    split at h2
    · omega
    · by_cases e : i = x
      · subst e; assumption
      · exact firstZ_nz d (x + 1) i (by omega) h2
theorem firstZ_congr {f g : Nat → Int} : ∀ d x, (∀ i, x ≤ i → i < x + d → (f i = 0 ↔ g i = 0)) → firstZ f d x = firstZ g d x
  | 0, x, _ => rfl
  | d + 1, x, h => by
    unfold firstZ
    rw [firstZ_congr d (x + 1) (fun i h1 h2 => h i (by omega) (by omega))]
    have := h x (Nat.le_refl _) (by omega)
    split
    · rw [if_pos (this.mp (by assumption))]
    · rw [if_neg (fun z => absurd (this.mpr z) (by assumption))]
theorem fr_rng {s : Nat → Int} (h : TK s) {p : Nat} (hp : p < 10) : -680 ≤ fr s p ∧ fr s p ≤ 40 := by
  have h1 := sumN_nonneg (f := fun j => cl (s (363 + (40 * p + j)))) (n := 40) (fun i hi => (cl_rng (h (40 * p + i) (by omega))).1)
  have h2 := sumN_le (f := fun j => cl (s (363 + (40 * p + j)))) (n := 40) (b := 18) (fun i hi => (cl_rng (h (40 * p + i) (by omega))).2.1)
  unfold fr
  omega
theorem x5_free {σ : Blk} (h : TK (σ 1)) {p : Nat} (hp : p < 10) : f_X5_freeOf σ p = some (fr (σ 1) p) := by
  have key := loopUp (F := fun n x => f_X5_freeOf_L5 σ p n (40 - sumN (fun j => cl (σ 1 (363 + (40 * p + j)))) x) (x : Int)) (R := some (fr (σ 1) p)) 40 (fun n x hx => ?_) (fun n => ?_) fu 0 (by omega) (fu_lt (by omega))
  · exact key
  · show f_X5_freeOf_L5 _ _ _ _ _ = f_X5_freeOf_L5 _ _ _ _ _
    have ht := h (40 * p + x) (by omega)
    have h1 := sumN_nonneg (f := fun j => cl (σ 1 (363 + (40 * p + j)))) (n := x) (fun i hi => (cl_rng (h (40 * p + i) (by omega))).1)
    have h2 := sumN_le (f := fun j => cl (σ 1 (363 + (40 * p + j)))) (n := x) (b := 18) (fun i hi => (cl_rng (h (40 * p + i) (by omega))).2.1)
    have h3 := cl_rng ht
    rw [f_X5_freeOf_L5, if_neg (by omega), ld_t (363 + (40 * p + x)) (by omega) (by omega), bs, x5_cells ht, bs, ck_t (by omega), bs, ck_t (by omega), bs]
    congr 1
    show _ = 40 - (sumN (fun j => cl (σ 1 (363 + (40 * p + j)))) x + cl (σ 1 (363 + (40 * p + x))))
    omega
  · show f_X5_freeOf_L5 _ _ _ _ _ = _
    rw [f_X5_freeOf_L5, if_pos (by omega)]
    rfl
def slT (s : Nat → Int) (p : Nat) : Nat := lastN (fun j => s (363 + (40 * p + j))) 40
theorem x5_slots {σ : Blk} {p : Nat} (hp : p < 10) : f_X5_slotsOf σ p = some (slT (σ 1) p : Int) := by
  have key := loopUp (F := fun n x => f_X5_slotsOf_L4 σ p n (lastN (fun j => σ 1 (363 + (40 * p + j))) x : Int) (x : Int)) (R := some (slT (σ 1) p : Int)) 40 (fun n x hx => ?_) (fun n => ?_) fu 0 (by omega) (fu_lt (by omega))
  · exact key
  · show f_X5_slotsOf_L4 _ _ _ _ _ = f_X5_slotsOf_L4 _ _ _ _ _
    rw [f_X5_slotsOf_L4, if_neg (by omega), ld_t (363 + (40 * p + x)) (by omega) (by omega), bs]
    dsimp only [jp]
    show _ = f_X5_slotsOf_L4 σ p n ((if σ 1 (363 + (40 * p + x)) = 0 then lastN (fun j => σ 1 (363 + (40 * p + j))) x else x + 1 : Nat) : Int) _
    by_cases e : σ 1 (363 + (40 * p + x)) = 0
    · rw [if_pos e, if_pos e, ck_t (by omega), bs]
      rfl
    · rw [if_neg e, if_neg e, ck_t (by omega), bs, bs]
      rfl
  · show f_X5_slotsOf_L4 _ _ _ _ _ = _
    rw [f_X5_slotsOf_L4, if_pos (by omega)]
    rfl
def onT (s : Nat → Int) (p : Nat) (k : Int) : Int := sumN (fun j => if s (363 + (40 * p + j)) = 0 then 0 else if k = 0 then 1 else if kd (s (363 + (40 * p + j))) ≠ k then 0 else 1) 40
theorem on_rng (s : Nat → Int) (p : Nat) (k : Int) (n : Nat) : 0 ≤ sumN (fun j => if s (363 + (40 * p + j)) = 0 then 0 else if k = 0 then 1 else if kd (s (363 + (40 * p + j))) ≠ k then 0 else 1) n ∧ sumN (fun j => if s (363 + (40 * p + j)) = 0 then 0 else if k = 0 then 1 else if kd (s (363 + (40 * p + j))) ≠ k then 0 else 1) n ≤ n := by
  constructor
  · refine sumN_nonneg (fun i _ => ?_)
    split
    · omega
    · split
      · omega
      · split <;> omega
  · have := sumN_le (f := fun j => if s (363 + (40 * p + j)) = 0 then 0 else if k = 0 then 1 else if kd (s (363 + (40 * p + j))) ≠ k then 0 else 1) (n := n) (b := 1) (fun i _ => by
      split
      · omega
      · split
        · omega
        · split <;> omega)
    omega
theorem x5_on {σ : Blk} (h : TK (σ 1)) {p : Nat} (hp : p < 10) (k : Int) : f_X5_thingsOn σ p k = some (onT (σ 1) p k) := by
  have key := loopUp (F := fun n x => f_X5_thingsOn_L5 σ p k n (sumN (fun j => if σ 1 (363 + (40 * p + j)) = 0 then 0 else if k = 0 then 1 else if kd (σ 1 (363 + (40 * p + j))) ≠ k then 0 else 1) x) (x : Int)) (R := some (onT (σ 1) p k)) 40 (fun n x hx => ?_) (fun n => ?_) fu 0 (by omega) (fu_lt (by omega))
  · exact key
  · show f_X5_thingsOn_L5 _ _ _ _ _ _ = f_X5_thingsOn_L5 _ _ _ _ _ _
    have h1 := on_rng (σ 1) p k x
    have ht := h (40 * p + x) (by omega)
    generalize hS : sumN (fun j => if σ 1 (363 + (40 * p + j)) = 0 then 0 else if k = 0 then 1 else if kd (σ 1 (363 + (40 * p + j))) ≠ k then 0 else 1) x = S at h1
    rw [f_X5_thingsOn_L5, if_neg (by omega), ld_t (363 + (40 * p + x)) (by omega) (by omega), bs]
    dsimp only [jp]
    show _ = f_X5_thingsOn_L5 σ p k n (sumN _ x + (if σ 1 (363 + (40 * p + x)) = 0 then 0 else if k = 0 then 1 else if kd (σ 1 (363 + (40 * p + x))) ≠ k then 0 else 1)) _
    rw [hS]
    by_cases e : σ 1 (363 + (40 * p + x)) = 0
    · rw [if_pos e, if_pos e, ck_t (by omega), bs, ck_t (by omega), bs]
      rfl
    · rw [if_neg e, if_neg e]
      by_cases e2 : k = 0
      · rw [if_pos e2, if_pos e2, ck_t (by omega), bs, ck_t (by omega), bs]
        rfl
      · rw [if_neg e2, if_neg e2, x5_kind ht, bs]
        by_cases e3 : kd (σ 1 (363 + (40 * p + x))) ≠ k
        · rw [if_pos e3, if_pos e3, ck_t (by omega), bs, ck_t (by omega), bs]
          rfl
        · rw [if_neg e3, if_neg e3, ck_t (by omega), bs, ck_t (by omega), bs]
          rfl
  · show f_X5_thingsOn_L5 _ _ _ _ _ _ = _
    rw [f_X5_thingsOn_L5, if_pos (by omega)]
    rfl
/-- the lowest empty slot of a page, 40 if there is none -/
def loE (s : Nat → Int) (p : Nat) : Nat := firstZ (fun j => s (363 + (40 * p + j))) 40 0
theorem x5_lowest {σ : Blk} {p : Nat} (hp : p < 10) : f_X5_lowestEmpty σ p = some (if loE (σ 1) p < 40 then (loE (σ 1) p : Int) else -6) := by
  let f : Nat → Int := fun j => σ 1 (363 + (40 * p + j))
  let v : Nat → Int := fun x => if firstZ f (40 - x) x < 40 then (firstZ f (40 - x) x : Int) else -6
  have key := loopDn (F := fun n x => f_X5_lowestEmpty_L6 σ p n (v x) ((x : Int) - 1)) (R := some (v 0)) 40 (fun n x hx => ?_) (fun n => ?_) fu 40 (Nat.le_refl _) (fu_lt (by omega))
  · exact key
  · show f_X5_lowestEmpty_L6 _ _ _ _ _ = f_X5_lowestEmpty_L6 _ _ _ _ _
    rw [f_X5_lowestEmpty_L6, if_neg (by omega), ld_t (363 + (40 * p + x)) (by omega) (by omega), bs]
    dsimp only [jp]
    have e1 : firstZ f (40 - x) x = if f x = 0 then x else firstZ f (40 - (x + 1)) (x + 1) := by
      rw [show 40 - x = (40 - (x + 1)) + 1 by omega]
      rfl
    have e2 : v x = if f x = 0 then (x : Int) else v (x + 1) := by
      show (if firstZ f (40 - x) x < 40 then (firstZ f (40 - x) x : Int) else -6) = _
      rw [e1]
      by_cases e : f x = 0
      · simp only [e, if_true]
        rw [if_pos (by omega)]
      · simp only [e, if_false]
        rfl
    rw [e2]
    by_cases e : f x = 0
    · rw [if_neg (by show ¬ (f x ≠ 0); simp [e]), if_pos e, ck_t (by omega), bs]
      congr 1 <;> omega
    · rw [if_pos (by exact e), if_neg e, ck_t (by omega), bs]
      congr 1 <;> omega
  · show f_X5_lowestEmpty_L6 _ _ _ _ _ = _
    rw [f_X5_lowestEmpty_L6, if_pos (by omega)]
/-- a page with free room has an empty slot -/
theorem loE_lt {s : Nat → Int} (h : TK s) {p : Nat} (hp : p < 10) (hf : 1 ≤ fr s p) : loE s p < 40 := by
  rcases Nat.lt_or_ge (loE s p) 40 with h1 | h1
  · exact h1
  · exfalso
    have h2 : sumN (fun _ => 1) 40 ≤ sumN (fun j => cl (s (363 + (40 * p + j)))) 40 := by
      have : ∀ n, n ≤ 40 → sumN (fun _ => 1) n ≤ sumN (fun j => cl (s (363 + (40 * p + j)))) n := by
        intro n
        induction n with
        | zero => intro _; exact Int.le_refl _
        | succ n ih =>
          intro hn
          have h3 := ih (by omega)
          have h4 := firstZ_nz (f := fun j => s (363 + (40 * p + j))) 40 0 n (by omega) (by unfold loE at h1; omega)
          have h5 := (cl_rng (h (40 * p + n) (by omega))).2.2 h4
          show sumN (fun _ => 1) n + 1 ≤ sumN _ n + cl (s (363 + (40 * p + n)))
          omega
      exact this 40 (Nat.le_refl _)
    have h3 : sumN (fun _ => (1 : Int)) 40 = 40 := by decide
    unfold fr at hf
    omega
/-- the page for a thing of c cells, 10 if there is none; its place -/
def pgT (s : Nat → Int) (c : Int) : Nat := firstZ (fun p => if c ≤ fr s p then 0 else 1) 10 0
def spT (s : Nat → Int) (c : Int) : Nat := 40 * pgT s c + loE s (pgT s c)
theorem pgT_le (s : Nat → Int) (c : Int) : pgT s c ≤ 10 := by
  have := firstZ_le (fun p => if c ≤ fr s p then 0 else 1) 10 0
  unfold pgT
  omega
theorem pgT_ok {s : Nat → Int} {c : Int} (h : pgT s c < 10) : c ≤ fr s (pgT s c) := by
  have h1 := firstZ_z (f := fun p => if c ≤ fr s p then 0 else 1) 10 0 (by unfold pgT at h; omega)
  unfold pgT
  split at h1
  · assumption
  · omega
theorem spT_lt {s : Nat → Int} (hT : TK s) {c : Int} (hc : 1 ≤ c) (h : pgT s c < 10) : spT s c < 400 ∧ s (363 + spT s c) = 0 ∧ spT s c / 40 = pgT s c := by
  have h1 := pgT_ok h
  have h2 := loE_lt hT h (by omega)
  have h3 := firstZ_z (f := fun j => s (363 + (40 * pgT s c + j))) 40 0 (by unfold loE at h2; omega)
  unfold spT
  refine ⟨by omega, h3, by omega⟩
theorem x5_placed {σ : Blk} (h : TK (σ 1)) {t : Int} (ht : tok t) (h0 : t ≠ 0) : f_X5_placed σ t = some (if pgT (σ 1) (cl t) < 10 then ((spT (σ 1) (cl t) : Int), up2 σ 1 (363 + spT (σ 1) (cl t)) t) else (-6, σ)) := by
  have hc := cl_rng ht
  have hc1 := hc.2.2 h0
  let f : Nat → Int := fun p => if cl t ≤ fr (σ 1) p then 0 else 1
  have key : ∀ (n x : Nat), x ≤ 10 → 10 - x < n → firstZ f (10 - x) x = pgT (σ 1) (cl t) → f_X5_placed_L2 σ t n (x : Int) = some (if pgT (σ 1) (cl t) < 10 then ((spT (σ 1) (cl t) : Int), up2 σ 1 (363 + spT (σ 1) (cl t)) t) else (-6, σ)) := by
    intro n
    induction n with
    | zero => intro x _ h; omega
    | succ n ih =>
      intro x hx hn hg
      rw [f_X5_placed_L2]
      by_cases e : x = 10
      · subst e
        have hg' : 10 = pgT (σ 1) (cl t) := hg
        rw [if_pos (by omega), if_neg (by omega)]
      · rw [if_neg (by omega), x5_free h (by omega), bs, x5_cells ht, bs]
        rw [show 10 - x = (10 - (x + 1)) + 1 by omega] at hg
        unfold firstZ at hg
        by_cases e2 : cl t ≤ fr (σ 1) x
        · have e3 : f x = 0 := if_pos e2
          rw [if_pos e3] at hg
          subst hg
          have h9 := loE_lt h (p := pgT (σ 1) (cl t)) (by omega) (by omega)
          rw [if_neg (by omega), x5_lowest (by omega), bs, if_pos h9, ck_t (by omega), bs, sw_t (363 + spT (σ 1) (cl t)) (by unfold spT; omega) (by unfold spT; omega), bs, if_pos (by omega)]
          congr 2
        · have e3 : f x ≠ 0 := by show (if cl t ≤ fr (σ 1) x then (0 : Int) else 1) ≠ 0; rw [if_neg e2]; decide
          rw [if_neg e3] at hg
          rw [if_pos (by omega), ck_t (by omega), bs]
          exact ih (x + 1) (by omega) (by omega) hg
  exact key fu 0 (by omega) (fu_lt (by omega)) rfl
