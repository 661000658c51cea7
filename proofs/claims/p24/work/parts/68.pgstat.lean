/-! PURE: what the pages answer -/
theorem lastN_nz {f : Nat → Int} : ∀ {n : Nat}, 0 < lastN f n → f (lastN f n - 1) ≠ 0
  | 0, h => by simp [lastN] at h
  | n + 1, h => by
    unfold lastN at h ⊢
    split
    · rename_i e
      rw [if_pos e] at h
      exact lastN_nz h
    · show f (n + 1 - 1) ≠ 0
      rw [show n + 1 - 1 = n by omega]
      assumption
theorem sumN_cut {f : Nat → Int} {m n : Nat} (hmn : m ≤ n) (h : ∀ i, m ≤ i → i < n → f i = 0) : sumN f n = sumN f m := by
  have h1 := sumN_split (f := f) (m := m) (n - m)
  rw [show m + (n - m) = n by omega] at h1
  rw [h1, sumN_congr (f := fun i => f (m + i)) (g := fun _ => 0) (fun i hi => h _ (by omega) (by omega)), sumN_const]
  simp
theorem slT_le (s : Nat → Int) (p : Nat) : slT s p ≤ 40 := lastN_le _ 40
theorem slT_above {s : Nat → Int} {p j : Nat} (h : slT s p ≤ j) (hj : j < 40) : s (363 + (40 * p + j)) = 0 := lastN_above (f := fun j => s (363 + (40 * p + j))) h hj
theorem x3_slotsOf {β : Blk} {s ow : Nat → Int} (h : PG β s ow) {p : Nat} (hp : p < 10) : f_X3_slotsOf β p = some (slT s p : Int) := by
  let f : Nat → Int := fun j => s (363 + (40 * p + j))
  have key : ∀ (n x : Nat), x ≤ 40 → x < n → lastN f x = slT s p → f_X3_slotsOf_L3 β p n ((x : Int) - 1) = some (slT s p : Int) := by
    intro n
    induction n with
    | zero => intro x _ h; omega
    | succ n ih =>
      intro x hx hn hg
      rw [f_X3_slotsOf_L3]
      match x, hx, hn, hg with
      | 0, _, _, hg =>
        rw [if_pos (by omega)]
        have : 0 = slT s p := hg
        rw [← this]
        rfl
      | x + 1, hx, hn, hg =>
        have h1 := h.2.1 (40 * p + x) (by omega)
        have ht := h.1 (40 * p + x) (by omega)
        rw [if_neg (by omega), ld_t (40 * p + x) (by omega) (by omega), bs, h1.1]
        unfold lastN at hg
        by_cases e : f x = 0
        · rw [if_pos e] at hg
          rw [if_pos ((kd_0 ht).mpr e), ck_t (by omega), bs]
          have h2 := ih x (by omega) (by omega) hg
          rw [show ((x + 1 : Nat) : Int) - 1 + -1 = (x : Int) - 1 by omega]
          exact h2
        · rw [if_neg e] at hg
          rw [if_neg (fun z => e ((kd_0 ht).mp z)), ck_t (by omega), bs, ← hg]
          congr 1
          omega
  exact key fu 40 (Nat.le_refl _) (fu_lt (by omega)) rfl
theorem bit_rng {P : Nat → Prop} [DecidablePred P] (n : Nat) : 0 ≤ sumN (fun i => if P i then (1 : Int) else 0) n ∧ sumN (fun i => if P i then (1 : Int) else 0) n ≤ n := by
  constructor
  · refine sumN_nonneg (fun i _ => ?_)
    split <;> omega
  · have := sumN_le (f := fun i => if P i then (1 : Int) else 0) (n := n) (b := 1) (fun i _ => by split <;> omega)
    omega
theorem x3_thingsOn0 {β : Blk} {s ow : Nat → Int} (h : PG β s ow) {p : Nat} (hp : p < 10) (k : Int) : f_X3_thingsOn β p k = some (sumN (fun j => if kd (s (363 + (40 * p + j))) = k then 1 else 0) (slT s p)) := by
  have hs := slT_le s p
  unfold f_X3_thingsOn
  rw [x3_slotsOf h hp, bs]
  have key := loopUp (F := fun n (x : Nat) => f_X3_thingsOn_L12 β p k (slT s p : Int) n (sumN (fun j => if kd (s (363 + (40 * p + j))) = k then 1 else 0) x) (x : Int)) (R := some (sumN (fun j => if kd (s (363 + (40 * p + j))) = k then 1 else 0) (slT s p))) (slT s p) (fun n x hx => ?_) (fun n => ?_) fu 0 (by omega) (fu_lt (by omega))
  · exact key
  · show f_X3_thingsOn_L12 _ _ _ _ _ _ _ = f_X3_thingsOn_L12 _ _ _ _ _ _ _
    have h1 := h.2.1 (40 * p + x) (by omega)
    have hb := bit_rng (P := fun j => kd (s (363 + (40 * p + j))) = k) x
    have e4 : sumN (fun j => if kd (s (363 + (40 * p + j))) = k then (1 : Int) else 0) (x + 1) = sumN (fun j => if kd (s (363 + (40 * p + j))) = k then (1 : Int) else 0) x + if kd (s (363 + (40 * p + x))) = k then 1 else 0 := rfl
    rw [e4, f_X3_thingsOn_L12, if_neg (by omega), ld_t (40 * p + x) (by omega) (by omega), bs, h1.1]
    dsimp only [jp]
    generalize sumN (fun j => if kd (s (363 + (40 * p + j))) = k then (1 : Int) else 0) x = S at hb ⊢
    by_cases e : kd (s (363 + (40 * p + x))) = k
    · rw [if_neg (by omega), if_pos e, ck_t (by omega), bs, ck_t (by omega), bs]
      rfl
    · rw [if_pos e, if_neg e, ck_t (by omega), bs, Int.add_zero]
      rfl
  · show f_X3_thingsOn_L12 _ _ _ _ _ _ _ = _
    rw [f_X3_thingsOn_L12, if_pos (by omega)]
theorem x3_thingsOn {β : Blk} {s ow : Nat → Int} (h : PG β s ow) {p : Nat} (hp : p < 10) {k : Int} (hk : k ≠ 0) : f_X3_thingsOn β p k = some (onT s p k) := by
  rw [x3_thingsOn0 h hp]
  congr 1
  unfold onT
  rw [← sumN_cut (slT_le s p) (fun i h1 h2 => by
    show (if kd (s (363 + (40 * p + i))) = k then (1 : Int) else 0) = 0
    rw [slT_above h1 h2, if_neg (fun z => hk z.symm)])]
  refine sumN_congr (fun i hi => ?_)
  have ht := h.1 (40 * p + i) (by omega)
  by_cases e : s (363 + (40 * p + i)) = 0
  · rw [if_pos e, e, if_neg (fun z => hk z.symm)]
  · rw [if_neg e, if_neg hk]
    by_cases e2 : kd (s (363 + (40 * p + i))) = k
    · rw [if_pos e2, if_neg (by omega)]
    · rw [if_neg e2, if_pos e2]
theorem x3_emptyOn {β : Blk} {s ow : Nat → Int} (h : PG β s ow) {p : Nat} (hp : p < 10) : f_X3_thingsOn β p 0 = some ((slT s p : Int) - onT s p 0) := by
  rw [x3_thingsOn0 h hp]
  congr 1
  unfold onT
  have hs := slT_le s p
  have h1 := sumN_add (f := fun j => if kd (s (363 + (40 * p + j))) = 0 then (1 : Int) else 0) (g := fun j => if s (363 + (40 * p + j)) = 0 then (0 : Int) else if (0 : Int) = 0 then 1 else if kd (s (363 + (40 * p + j))) ≠ 0 then 0 else 1) (slT s p)
  rw [sumN_cut (f := fun j => if s (363 + (40 * p + j)) = 0 then (0 : Int) else if (0 : Int) = 0 then 1 else if kd (s (363 + (40 * p + j))) ≠ 0 then 0 else 1) (n := 40) hs (fun i h2 h3 => if_pos (slT_above h2 h3))]
  rw [sumN_congr (g := fun _ => 1) (fun i hi => by
    have ht := h.1 (40 * p + i) (by omega)
    show (if kd (s (363 + (40 * p + i))) = 0 then (1 : Int) else 0) + (if s (363 + (40 * p + i)) = 0 then (0 : Int) else if (0 : Int) = 0 then 1 else if kd (s (363 + (40 * p + i))) ≠ 0 then 0 else 1) = 1
    by_cases e : s (363 + (40 * p + i)) = 0
    · rw [if_pos ((kd_0 ht).mpr e), if_pos e]; rfl
    · rw [if_neg (fun z => e ((kd_0 ht).mp z)), if_neg e, if_pos rfl]; rfl), sumN_const] at h1
  omega
theorem onT_rng (s : Nat → Int) (p : Nat) (k : Int) : 0 ≤ onT s p k ∧ onT s p k ≤ 40 := by
  have := on_rng s p k 40
  unfold onT
  omega
theorem sum_rng {f : Nat → Int} {b : Int} (h : ∀ i, 0 ≤ f i ∧ f i ≤ b) (n : Nat) : 0 ≤ sumN f n ∧ sumN f n ≤ n * b := ⟨sumN_nonneg (fun i _ => (h i).1), sumN_le (fun i _ => (h i).2)⟩
theorem x3_inAll {β : Blk} {s ow : Nat → Int} (h : PG β s ow) {k : Int} (hk : k ≠ 0) : f_X3_thingsInAll β k = some (sumN (fun p => onT s p k) 10) := by
  have key := loopUp (F := fun n (x : Nat) => f_X3_thingsInAll_L4 β k n (sumN (fun p => onT s p k) x) (x : Int)) (R := some (sumN (fun p => onT s p k) 10)) 10 (fun n x hx => ?_) (fun n => ?_) fu 0 (by omega) (fu_lt (by omega))
  · exact key
  · show f_X3_thingsInAll_L4 _ _ _ _ _ = f_X3_thingsInAll_L4 _ _ _ _ _
    have h1 := sum_rng (f := fun p => onT s p k) (b := 40) (fun i => onT_rng s i k) x
    have h2 := onT_rng s x k
    rw [f_X3_thingsInAll_L4, if_neg (by omega), x3_thingsOn h hx hk, bs, ck_t (by omega), bs, ck_t (by omega), bs]
    rfl
  · show f_X3_thingsInAll_L4 _ _ _ _ _ = _
    rw [f_X3_thingsInAll_L4, if_pos (by omega)]
theorem x5_thingsOf {σ : Blk} (h : TK (σ 1)) {k : Int} : f_X5_thingsOf σ k = some (sumN (fun p => onT (σ 1) p k) 10) := by
  have key := loopUp (F := fun n (x : Nat) => f_X5_thingsOf_L4 σ k n (sumN (fun p => onT (σ 1) p k) x) (x : Int)) (R := some (sumN (fun p => onT (σ 1) p k) 10)) 10 (fun n x hx => ?_) (fun n => ?_) fu 0 (by omega) (fu_lt (by omega))
  · exact key
  · show f_X5_thingsOf_L4 _ _ _ _ _ = f_X5_thingsOf_L4 _ _ _ _ _
    have h1 := sum_rng (f := fun p => onT (σ 1) p k) (b := 40) (fun i => onT_rng (σ 1) i k) x
    have h2 := onT_rng (σ 1) x k
    rw [f_X5_thingsOf_L4, if_neg (by omega), x5_on h hx, bs, ck_t (by omega), bs, ck_t (by omega), bs]
    rfl
  · show f_X5_thingsOf_L4 _ _ _ _ _ = _
    rw [f_X5_thingsOf_L4, if_pos (by omega)]
theorem x3_freeInAll {β : Blk} {s ow : Nat → Int} (h : PG β s ow) : f_X3_freeInAll β = some (sumN (fun p => fr s p) 10) := by
  have key := loopUp (F := fun n (x : Nat) => f_X3_freeInAll_L4 β n (sumN (fun p => fr s p) x) (x : Int)) (R := some (sumN (fun p => fr s p) 10)) 10 (fun n x hx => ?_) (fun n => ?_) fu 0 (by omega) (fu_lt (by omega))
  · exact key
  · show f_X3_freeInAll_L4 _ _ _ _ = f_X3_freeInAll_L4 _ _ _ _
    have h1 := sumN_nonneg (f := fun p => fr s p) (n := x) (fun i hi => (h.2.2 i (by omega)).2)
    have h2 := sumN_le (f := fun p => fr s p) (n := x) (b := 40) (fun i hi => (h.f (by omega)).2.2)
    have h3 := h.f hx
    rw [f_X3_freeInAll_L4, if_neg (by omega), ld_t x rfl hx, bs, h3.1, ck_t (by omega), bs, ck_t (by omega), bs]
    rfl
  · show f_X3_freeInAll_L4 _ _ _ _ = _
    rw [f_X3_freeInAll_L4, if_pos (by omega)]
theorem x5_allFree {β σ : Blk} {ow : Nat → Int} (h : PG β (σ 1) ow) : f_X5_allFree σ = some (sumN (fun p => fr (σ 1) p) 10) := by
  have key := loopUp (F := fun n (x : Nat) => f_X5_allFree_L4 σ n (sumN (fun p => fr (σ 1) p) x) (x : Int)) (R := some (sumN (fun p => fr (σ 1) p) 10)) 10 (fun n x hx => ?_) (fun n => ?_) fu 0 (by omega) (fu_lt (by omega))
  · exact key
  · show f_X5_allFree_L4 _ _ _ _ = f_X5_allFree_L4 _ _ _ _
    have h1 := sumN_nonneg (f := fun p => fr (σ 1) p) (n := x) (fun i hi => (h.2.2 i (by omega)).2)
    have h2 := sumN_le (f := fun p => fr (σ 1) p) (n := x) (b := 40) (fun i hi => (h.f (by omega)).2.2)
    have h3 := h.f hx
    rw [f_X5_allFree_L4, if_neg (by omega), x5_free h.1 hx, bs, ck_t (by omega), bs, ck_t (by omega), bs]
    rfl
  · show f_X5_allFree_L4 _ _ _ _ = _
    rw [f_X5_allFree_L4, if_pos (by omega)]
theorem fr_full {s : Nat → Int} (h : TK s) {p : Nat} (hp : p < 10) : 40 ≤ fr s p ↔ (slT s p : Int) ≤ 0 := by
  unfold fr
  constructor
  · intro h1
    rcases Nat.eq_zero_or_pos (slT s p) with h2 | h2
    · omega
    · exfalso
      have h3 := lastN_nz (f := fun j => s (363 + (40 * p + j))) (n := 40) h2
      have hle := slT_le s p
      have h4 := sumN_ge (f := fun j => cl (s (363 + (40 * p + j)))) (n := 40) (k := slT s p - 1) (by omega) (fun i hi => (cl_rng (h (40 * p + i) (by omega))).1)
      have h5 := (cl_rng (h (40 * p + (slT s p - 1)) (by omega))).2.2 h3
      have h6 : cl (s (363 + (40 * p + (slT s p - 1)))) ≤ sumN (fun j => cl (s (363 + (40 * p + j)))) 40 := h4
      omega
  · intro h1
    have h2 : sumN (fun j => cl (s (363 + (40 * p + j)))) 40 = sumN (fun _ => 0) 40 := sumN_congr (fun i hi => by
      show cl (s (363 + (40 * p + i))) = 0
      rw [slT_above (s := s) (p := p) (j := i) (by omega) hi]
      rfl)
    rw [h2, sumN_const]
    omega
theorem x3_pagesInUse {β : Blk} {s ow : Nat → Int} (h : PG β s ow) : f_X3_pagesInUse β = some (sumN (fun p => if (slT s p : Int) ≤ 0 then 0 else 1) 10) := by
  have key := loopUp (F := fun n (x : Nat) => f_X3_pagesInUse_L4 β n (sumN (fun p => if (slT s p : Int) ≤ 0 then 0 else 1) x) (x : Int)) (R := some (sumN (fun p => if (slT s p : Int) ≤ 0 then 0 else 1) 10)) 10 (fun n x hx => ?_) (fun n => ?_) fu 0 (by omega) (fu_lt (by omega))
  · exact key
  · show f_X3_pagesInUse_L4 _ _ _ _ = f_X3_pagesInUse_L4 _ _ _ _
    have h1 := sum_rng (f := fun p => if (slT s p : Int) ≤ 0 then 0 else 1) (b := 1) (fun i => by split <;> omega) x
    have e4 : sumN (fun p => if (slT s p : Int) ≤ 0 then (0 : Int) else 1) (x + 1) = sumN (fun p => if (slT s p : Int) ≤ 0 then (0 : Int) else 1) x + if (slT s x : Int) ≤ 0 then 0 else 1 := rfl
    rw [e4, f_X3_pagesInUse_L4, if_neg (by omega), ld_t x rfl hx, bs, (h.f hx).1]
    dsimp only [jp]
    have h2 := fr_full h.1 hx
    generalize sumN (fun p => if (slT s p : Int) ≤ 0 then (0 : Int) else 1) x = S at h1 ⊢
    by_cases e : (slT s x : Int) ≤ 0
    · rw [if_pos (h2.mpr e), if_pos e, ck_t (by omega), bs, Int.add_zero]
      rfl
    · rw [if_neg (fun z => e (h2.mp z)), if_neg e, ck_t (by omega), bs, ck_t (by omega), bs]
      rfl
  · show f_X3_pagesInUse_L4 _ _ _ _ = _
    rw [f_X3_pagesInUse_L4, if_pos (by omega)]
theorem x5_pagesWith {σ : Blk} : f_X5_pagesWith σ = some (sumN (fun p => if (slT (σ 1) p : Int) ≤ 0 then 0 else 1) 10) := by
  have key := loopUp (F := fun n (x : Nat) => f_X5_pagesWith_L4 σ n (sumN (fun p => if (slT (σ 1) p : Int) ≤ 0 then 0 else 1) x) (x : Int)) (R := some (sumN (fun p => if (slT (σ 1) p : Int) ≤ 0 then 0 else 1) 10)) 10 (fun n x hx => ?_) (fun n => ?_) fu 0 (by omega) (fu_lt (by omega))
  · exact key
  · show f_X5_pagesWith_L4 _ _ _ _ = f_X5_pagesWith_L4 _ _ _ _
    have h1 := sum_rng (f := fun p => if (slT (σ 1) p : Int) ≤ 0 then 0 else 1) (b := 1) (fun i => by split <;> omega) x
    have e4 : sumN (fun p => if (slT (σ 1) p : Int) ≤ 0 then (0 : Int) else 1) (x + 1) = sumN (fun p => if (slT (σ 1) p : Int) ≤ 0 then (0 : Int) else 1) x + if (slT (σ 1) x : Int) ≤ 0 then 0 else 1 := rfl
    rw [e4, f_X5_pagesWith_L4, if_neg (by omega), x5_slots hx, bs]
    dsimp only [jp]
    generalize sumN (fun p => if (slT (σ 1) p : Int) ≤ 0 then (0 : Int) else 1) x = S at h1 ⊢
    by_cases e : (slT (σ 1) x : Int) ≤ 0
    · rw [if_pos e, if_pos e, ck_t (by omega), bs, ck_t (by omega), bs]
      rfl
    · rw [if_neg e, if_neg e, ck_t (by omega), bs, ck_t (by omega), bs]
      rfl
  · show f_X5_pagesWith_L4 _ _ _ _ = _
    rw [f_X5_pagesWith_L4, if_pos (by omega)]
