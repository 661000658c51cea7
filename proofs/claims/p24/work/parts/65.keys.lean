/-! PURE: keys in order -/
theorem j_fill {σ : Blk} {i n : Nat} {v : Int} (hn : n < 9000) : ∃ σ', f_J7_fill_53178 σ i n v = some σ' ∧ (∀ c, c ≠ i → σ' c = σ c) ∧ ∀ j, j < n → σ' i j = v := by
  have key := loopSt (F := fun m (x : Nat) (s : Blk) => f_J7_fill_53178_L5 i n v (n : Int) m (x : Int) s) (P := fun x s => (∀ c, c ≠ i → s c = σ c) ∧ ∀ j, j < x → s i j = v) (Q := fun o => ∃ σ', o = some σ' ∧ (∀ c, c ≠ i → σ' c = σ c) ∧ ∀ j, j < n → σ' i j = v) n (fun m x s hx hp => ?_) (fun m s hp => ?_) fu 0 σ (by omega) (fu_lt (by omega)) ⟨fun _ _ => rfl, fun j hj => by omega⟩
  · exact key
  · obtain ⟨a1, a2⟩ := hp
    show ∃ s', f_J7_fill_53178_L5 i n v (n : Int) (m + 1) (x : Int) s = f_J7_fill_53178_L5 i n v (n : Int) m ((x + 1 : Nat) : Int) s' ∧ _
    rw [f_J7_fill_53178_L5, if_neg (by omega), sw_t x rfl hx, bs, ck_t (by omega), bs]
    refine ⟨_, rfl, fun c hc => by rw [up2_ne hc]; exact a1 c hc, fun j hj => ?_⟩
    by_cases e : j = x
    · rw [e, up2_s]
    · rw [up2_n (by omega)]
      exact a2 j (by omega)
  · obtain ⟨a1, a2⟩ := hp
    refine ⟨s, ?_, a1, a2⟩
    show f_J7_fill_53178_L5 _ _ _ _ _ _ _ = _
    rw [f_J7_fill_53178_L5, if_pos (by omega)]
theorem sumN_add {f g : Nat → Int} : ∀ n, sumN (fun i => f i + g i) n = sumN f n + sumN g n
  | 0 => rfl
  | n + 1 => by
    show sumN (fun i => f i + g i) n + (f n + g n) = sumN f n + f n + (sumN g n + g n)
    rw [sumN_add n]
    omega
theorem sumN_swap {f : Nat → Nat → Int} {m : Nat} : ∀ n, sumN (fun i => sumN (fun j => f i j) m) n = sumN (fun j => sumN (fun i => f i j) n) m
  | 0 => by
    show 0 = sumN (fun _ => 0) m
    rw [sumN_const]
    simp
  | n + 1 => by
    show sumN (fun i => sumN (fun j => f i j) m) n + sumN (fun j => f n j) m = sumN (fun j => sumN (fun i => f i j) n + f n j) m
    rw [sumN_swap n, sumN_add m]
/-- a sum with one term -/
theorem sumN_single {g : Nat → Int} {n k : Nat} {v : Int} (hk : k < n) (h : ∀ i, i < n → g i = if i = k then v else 0) : sumN g n = v := by
  have h1 := sumN_one (f := fun _ => 0) (g := g) hk (fun i hi hne => by rw [h i hi, if_neg hne])
  rw [h1, sumN_const, h k hk, if_pos rfl]
  simp
/-- how many keys below x there are -/
def kc (β : Blk) (x : Nat) : Int := sumN (fun k => if β 6 k = -1 then 0 else 1) x
theorem kc_rng (β : Blk) (x : Nat) : 0 ≤ kc β x ∧ kc β x ≤ x := by
  unfold kc
  constructor
  · refine sumN_nonneg (fun i _ => ?_)
    split <;> omega
  · have := sumN_le (f := fun k => if β 6 k = -1 then 0 else 1) (n := x) (b := 1) (fun i _ => by split <;> omega)
    omega
theorem kc_s (β : Blk) (x : Nat) : kc β (x + 1) = kc β x + if β 6 x = -1 then 0 else 1 := rfl
theorem kc_mono (β : Blk) {x y : Nat} (h : x ≤ y) : kc β x ≤ kc β y := sumN_mono h (fun i _ => by split <;> omega)
theorem RW.total {β : Blk} {s : Nat → Int} (h : RW β s) : kc β 100 = s 2 := by
  rw [h.2.2]
  unfold kc
  have h1 : ∀ k, k < 100 → (if β 6 k = -1 then (0 : Int) else 1) = sumN (fun r => if β 6 k = (r : Int) then 1 else 0) 30 := by
    intro k hk
    rcases h.2.1 k hk with h2 | ⟨r, h2, h3, -⟩
    · rw [if_pos h2, sumN_congr (g := fun _ => 0) (fun i _ => if_neg (by omega)), sumN_const]
      simp
    · rw [if_neg (by omega)]
      exact (sumN_single (k := r) h2 (fun i _ => by
        by_cases e : i = r
        · rw [if_pos e, if_pos (by omega)]
        · rw [if_neg e, if_neg (by omega)])).symm
  rw [sumN_congr h1, sumN_swap (f := fun k r => if β 6 k = (r : Int) then 1 else 0)]
  refine sumN_congr (fun r hr => ?_)
  rcases h.1 r hr with h2 | h2
  · rw [h2.1]
    refine sumN_single (k := (pt s r 1).toNat) (by omega) (fun k hk => ?_)
    by_cases e : k = (pt s r 1).toNat
    · rw [if_pos e, e, if_pos h2.2.2.2.2]
    · rw [if_neg e, if_neg (fun z => ?_)]
      rcases h.2.1 k hk with h3 | ⟨x, h3, h4, h5, h6⟩
      · omega
      · have : x = r := by omega
        subst this
        omega
  · rw [h2.1, sumN_congr (g := fun _ => 0) (fun k hk => if_neg (fun z => ?_)), sumN_const]
    · simp
    · rcases h.2.1 k hk with h3 | ⟨x, h3, h4, h5, h6⟩
      · omega
      · have : x = r := by omega
        subst this
        omega
theorem RW.row {β σ : Blk} (h : RW β (σ 1)) {k : Nat} (hk : k < 100) : f_X5_rowWith σ (k : Int) = some (if β 6 k = -1 then -6 else β 6 k) := by
  rw [x5_rowWith h]
  unfold rk
  rw [if_pos (show (0 : Int) ≤ (k : Int) ∧ (k : Int) < 100 by omega), Int.toNat_natCast]
theorem x5_keyAt {β σ : Blk} (h : RW β (σ 1)) {i : Int} {k : Nat} (hk : k < 100) (h6 : β 6 k ≠ -1) (hc : kc β k = i) : f_X5_keyAt σ i = some (k : Int) := by
  have key := loopUp (F := fun n x => f_X5_keyAt_L4 σ n (i - kc β x) (x : Int)) (R := some (k : Int)) k (fun n x hx => ?_) (fun n => ?_) fu 0 (by omega) (fu_lt (by omega))
  · have e : kc β 0 = 0 := rfl
    rw [e, Int.sub_zero] at key
    exact key
  · show f_X5_keyAt_L4 _ _ _ _ = f_X5_keyAt_L4 _ _ _ _
    have h1 := kc_mono β (show x + 1 ≤ k by omega)
    have h2 := kc_rng β x
    have h3 := kc_rng β k
    rw [f_X5_keyAt_L4, if_neg (by omega), h.row (by omega), bs]
    dsimp only [jp]
    rw [kc_s] at h1 ⊢
    by_cases e : β 6 x = -1
    · rw [if_pos e, if_pos rfl, ck_t (by omega), bs, if_pos e, Int.add_zero]
      rfl
    · have h4 : β 6 x ≠ -6 := by
        rcases h.2.1 x (by omega) with h5 | ⟨r, h5, h6, -⟩ <;> omega
      rw [if_neg e] at h1
      rw [if_neg e, if_neg h4, if_pos (by omega), ck_t (by omega), bs, ck_t (by omega), bs, if_neg e]
      congr 1
      omega
  · show f_X5_keyAt_L4 _ _ _ _ = _
    have h4 : β 6 k ≠ -6 := by
      rcases h.2.1 k (by omega) with h5 | ⟨r, h5, h6, -⟩ <;> omega
    rw [f_X5_keyAt_L4, if_neg (by omega), h.row (by omega), bs, if_neg h6]
    dsimp only [jp]
    rw [if_neg h4, if_neg (by omega)]
/-- the key of a place exists -/
theorem kc_find (β : Blk) {i : Int} (h0 : 0 ≤ i) : ∀ n, i < kc β n → ∃ k, k < n ∧ β 6 k ≠ -1 ∧ kc β k = i := by
  intro n
  induction n with
  | zero => intro h; have : kc β 0 = 0 := rfl; omega
  | succ n ih =>
    intro h
    by_cases e : i < kc β n
    · obtain ⟨k, h1, h2⟩ := ih e
      exact ⟨k, by omega, h2⟩
    · rw [kc_s] at h
      by_cases e2 : β 6 n = -1
      · rw [if_pos e2] at h; omega
      · rw [if_neg e2] at h
        exact ⟨n, by omega, e2, by omega⟩
