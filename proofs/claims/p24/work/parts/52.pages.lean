/-! PURE: a Book's Pages beside the model's things -/
def us (s : Nat → Int) (j : Nat) (v : Int) : Nat → Int := fun i => if i = j then v else s i
theorem us_s {s : Nat → Int} {j : Nat} {v : Int} : us s j v j = v := if_pos rfl
theorem us_n {s : Nat → Int} {i j : Nat} {v : Int} (h : i ≠ j) : us s j v i = s i := if_neg h
theorem up2_row {σ : Blk} {c j : Nat} {v : Int} : up2 σ c j v c = us (σ c) j v := by
  funext i
  simp [up2, us]
def PG (β : Blk) (s : Nat → Int) (ow : Nat → Int) : Prop := TK s ∧ (∀ q, q < 400 → β 2 q = kd (s (363 + q)) ∧ β 4 q = cl (s (363 + q)) ∧ (s (363 + q) ≠ 0 → β 3 q = ow (rwo (s (363 + q))).toNat)) ∧ ∀ p, p < 10 → β 5 p = fr s p ∧ 0 ≤ fr s p
theorem kd_0 {t : Int} (h : tok t) : kd t = 0 ↔ t = 0 := by
  unfold kd
  rcases h with rfl | h
  · simp
  · omega
theorem kd_rng {t : Int} (h : tok t) : 0 ≤ kd t ∧ kd t ≤ 3 := by
  unfold kd
  have := h.rng
  omega
theorem PG.f {β : Blk} {s ow : Nat → Int} (h : PG β s ow) {p : Nat} (hp : p < 10) : β 5 p = fr s p ∧ 0 ≤ fr s p ∧ fr s p ≤ 40 := ⟨(h.2.2 p hp).1, (h.2.2 p hp).2, (fr_rng h.1 hp).2⟩
theorem x3_hasRoom {β : Blk} {s ow : Nat → Int} (h : PG β s ow) {p : Nat} (hp : p < 10) (c : Int) : f_X3_hasRoom β p c = some (if fr s p < c then 0 else 1) := by
  unfold f_X3_hasRoom
  rw [ld_t p rfl hp, bs, (h.f hp).1]
  split <;> rfl
theorem x3_lowestGap {β : Blk} {s ow : Nat → Int} (h : PG β s ow) {p : Nat} (hp : p < 10) : f_X3_lowestGap β p = some (if loE s p < 40 then ((40 * p + loE s p : Nat) : Int) else -1) := by
  let f : Nat → Int := fun j => s (363 + (40 * p + j))
  have key : ∀ (n x : Nat), x ≤ 40 → 40 - x < n → firstZ f (40 - x) x = loE s p → f_X3_lowestGap_L2 β p n (x : Int) = some (if loE s p < 40 then ((40 * p + loE s p : Nat) : Int) else -1) := by
    intro n
    induction n with
    | zero => intro x _ h; omega
    | succ n ih =>
      intro x hx hn hg
      rw [f_X3_lowestGap_L2]
      by_cases e : x = 40
      · subst e
        have hg' : 40 = loE s p := hg
        rw [if_pos (by omega), if_neg (by omega)]
      · rw [if_neg (by omega), ck_t (by omega), bs, ld_t (40 * p + x) (by omega) (by omega), bs]
        have h1 := h.2.1 (40 * p + x) (by omega)
        have ht := h.1 (40 * p + x) (by omega)
        rw [show 40 - x = (40 - (x + 1)) + 1 by omega] at hg
        unfold firstZ at hg
        by_cases e2 : f x = 0
        · rw [if_pos e2] at hg
          subst hg
          rw [if_neg (by rw [h1.1, Decidable.not_not]; exact (kd_0 ht).mpr e2), if_pos (by omega)]
          congr 1
          omega
        · rw [if_neg e2] at hg
          rw [if_pos (by rw [h1.1]; exact fun z => e2 ((kd_0 ht).mp z)), ck_t (by omega), bs]
          exact ih (x + 1) (by omega) (by omega) hg
  exact key fu 0 (by omega) (fu_lt (by omega)) rfl
def occB (β : Blk) (q : Nat) (k o c : Int) : Blk := up2 (up2 (up2 (up2 β 2 q k) 3 q o) 4 q c) 5 (q / 40) (β 5 (q / 40) - c)
def vacB (β : Blk) (q : Nat) : Blk := up2 (up2 (up2 β 5 (q / 40) (β 5 (q / 40) + β 4 q)) 2 q 0) 4 q 0
/-- what lies outside the pages' four rows -/
def AgB (β β' : Blk) : Prop := ∀ c, c < 2 ∨ 5 < c → β' c = β c
theorem AgB.rf {β : Blk} : AgB β β := fun _ _ => rfl
theorem AgB.tr {β β' β'' : Blk} (h : AgB β β') (h2 : AgB β' β'') : AgB β β'' := fun c hc => (h2 c hc).trans (h c hc)
theorem occB_ag {β : Blk} {q : Nat} {k o c : Int} : AgB β (occB β q k o c) := fun i hi => by
  unfold occB
  rw [up2_ne (by omega), up2_ne (by omega), up2_ne (by omega), up2_ne (by omega)]
theorem vacB_ag {β : Blk} {q : Nat} : AgB β (vacB β q) := fun i hi => by
  unfold vacB
  rw [up2_ne (by omega), up2_ne (by omega), up2_ne (by omega)]
theorem x3_occupy {β : Blk} {q : Nat} {k o c : Int} (hq : q < 400) (h : 0 ≤ β 5 (q / 40) ∧ β 5 (q / 40) ≤ 40) (hc : 0 ≤ c ∧ c ≤ 100) : f_X3_occupy β q k o c = some (occB β q k o c) := by
  unfold f_X3_occupy
  have e5 : up2 (up2 (up2 β 2 q k) 3 q o) 4 q c 5 (q / 40) = β 5 (q / 40) := by
    rw [up2_ne (by omega), up2_ne (by omega), up2_ne (by omega)]
  rw [sw_t q rfl hq, bs, sw_t q rfl hq, bs, sw_t q rfl hq, bs, dv_t (by omega), bs, ld_t (q / 40) (by omega) (by omega), bs, e5, ck_t (by omega), bs, sw_t (q / 40) (by omega) (by omega), bs]
  rfl
theorem x3_vacate {β : Blk} {q : Nat} (hq : q < 400) (h : 0 ≤ β 5 (q / 40) ∧ β 5 (q / 40) ≤ 100) (hc : 0 ≤ β 4 q ∧ β 4 q ≤ 100) : f_X3_vacate β q = some (vacB β q) := by
  unfold f_X3_vacate
  rw [dv_t (by omega), bs, ld_t (q / 40) (by omega) (by omega), bs, ld_t q rfl hq, bs, ck_t (by omega), bs, sw_t (q / 40) (by omega) (by omega), bs, sw_t q rfl hq, bs, sw_t q rfl hq, bs]
  rfl
theorem fr_us {s : Nat → Int} {q : Nat} {t : Int} (hq : q < 400) (p : Nat) (hp : p < 10) : fr (us s (363 + q) t) p = if p = q / 40 then fr s p - cl t + cl (s (363 + q)) else fr s p := by
  unfold fr
  by_cases e : p = q / 40
  · rw [if_pos e]
    have h1 := sumN_one (f := fun j => cl (s (363 + (40 * p + j)))) (g := fun j => cl (us s (363 + q) t (363 + (40 * p + j)))) (n := 40) (k := q % 40) (by omega) (fun i hi hne => by
      show cl (us s (363 + q) t (363 + (40 * p + i))) = _
      rw [us_n (by omega)])
    rw [h1]
    show 40 - (_ - cl (s (363 + (40 * p + q % 40))) + cl (us s (363 + q) t (363 + (40 * p + q % 40)))) = _
    rw [show 40 * p + q % 40 = q by omega, us_s]
    omega
  · rw [if_neg e]
    rw [sumN_congr (f := fun j => cl (us s (363 + q) t (363 + (40 * p + j)))) (g := fun j => cl (s (363 + (40 * p + j)))) (fun i hi => by
      show cl (us s (363 + q) t (363 + (40 * p + i))) = _
      rw [us_n (by omega)])]
theorem TK.set1 {s : Nat → Int} (h : TK s) {q : Nat} {t : Int} (ht : tok t) : TK (us s (363 + q) t) := fun i hi => by
  by_cases e : i = q
  · subst e; rw [us_s]; exact ht
  · rw [us_n (by omega)]; exact h i hi
theorem TK.set2 {s : Nat → Int} (h : TK s) {j : Nat} {v : Int} (hj : j < 363) : TK (us s j v) := fun i hi => by
  rw [us_n (by omega)]; exact h i hi
theorem PG.occ {β : Blk} {s ow : Nat → Int} (h : PG β s ow) {q : Nat} {t : Int} (hq : q < 400) (h0 : s (363 + q) = 0) (ht : tok t) (hc : cl t ≤ fr s (q / 40)) : PG (occB β q (kd t) (ow (rwo t).toNat) (cl t)) (us s (363 + q) t) ow := by
  refine ⟨h.1.set1 ht, fun i hi => ?_, fun p hp => ?_⟩
  · have h1 := h.2.1 i hi
    unfold occB
    by_cases e : i = q
    · subst e
      rw [us_s, up2_n (by omega), up2_n (by omega), up2_n (by omega), up2_s, up2_n (by omega), up2_s, up2_n (by omega), up2_n (by omega), up2_s]
      exact ⟨rfl, rfl, fun _ => rfl⟩
    · rw [us_n (by omega), up2_n (by omega), up2_n (by omega), up2_n (by omega), up2_n (by omega), up2_n (by omega), up2_n (by omega), up2_n (by omega), up2_n (by omega), up2_n (by omega), up2_n (by omega), up2_n (by omega), up2_n (by omega)]
      exact h1
  · have h1 := h.2.2 p hp
    rw [fr_us hq p hp, h0, cl_0]
    unfold occB
    by_cases e : p = q / 40
    · subst e
      rw [up2_s, if_pos rfl]
      omega
    · rw [if_neg e, up2_n (by omega), up2_n (by omega), up2_n (by omega), up2_n (by omega)]
      exact h1
theorem PG.vac {β : Blk} {s ow : Nat → Int} (h : PG β s ow) {q : Nat} (hq : q < 400) : PG (vacB β q) (us s (363 + q) 0) ow := by
  have h2 := h.2.1 q hq
  have hcl := cl_rng (h.1 q hq)
  refine ⟨h.1.set1 (Or.inl rfl), fun i hi => ?_, fun p hp => ?_⟩
  · have h1 := h.2.1 i hi
    unfold vacB
    by_cases e : i = q
    · subst e
      rw [us_s, up2_n (by omega), up2_s, up2_s]
      exact ⟨rfl, rfl, fun z => absurd rfl z⟩
    · rw [us_n (by omega), up2_n (by omega), up2_n (by omega), up2_n (by omega), up2_n (by omega), up2_n (by omega), up2_n (by omega), up2_n (by omega), up2_n (by omega), up2_n (by omega)]
      exact h1
  · have h1 := h.2.2 p hp
    rw [fr_us hq p hp, cl_0]
    unfold vacB
    by_cases e : p = q / 40
    · subst e
      rw [up2_n (by omega), up2_n (by omega), up2_s, if_pos rfl]
      omega
    · rw [if_neg e, up2_n (by omega), up2_n (by omega), up2_n (by omega)]
      exact h1
theorem PG.x3v {β : Blk} {s ow : Nat → Int} (h : PG β s ow) {q : Nat} (hq : q < 400) : f_X3_vacate β q = some (vacB β q) := by
  have h1 := h.f (p := q / 40) (by omega)
  have h2 := cl_rng (h.1 q hq)
  have h3 := (h.2.1 q hq).2.1
  exact x3_vacate hq (by omega) (by omega)
theorem PG.x3o {β : Blk} {s ow : Nat → Int} (h : PG β s ow) {q : Nat} {k o c : Int} (hq : q < 400) (hc : 0 ≤ c ∧ c ≤ 100) : f_X3_occupy β q k o c = some (occB β q k o c) := by
  have h1 := h.f (p := q / 40) (by omega)
  exact x3_occupy hq (by omega) hc
theorem x3_place {β : Blk} {s ow : Nat → Int} (h : PG β s ow) {t : Int} (ht : tok t) (h0 : t ≠ 0) : f_X3_place β (kd t) (ow (rwo t).toNat) (cl t) = some (if pgT s (cl t) < 10 then ((spT s (cl t) : Int), occB β (spT s (cl t)) (kd t) (ow (rwo t).toNat) (cl t)) else (-1, β)) := by
  have hc := cl_rng ht
  have hc1 := hc.2.2 h0
  let f : Nat → Int := fun p => if cl t ≤ fr s p then 0 else 1
  have key : ∀ (n x : Nat), x ≤ 10 → 10 - x < n → firstZ f (10 - x) x = pgT s (cl t) → f_X3_place_L3 β (kd t) (ow (rwo t).toNat) (cl t) n (x : Int) = some (if pgT s (cl t) < 10 then ((spT s (cl t) : Int), occB β (spT s (cl t)) (kd t) (ow (rwo t).toNat) (cl t)) else (-1, β)) := by
    intro n
    induction n with
    | zero => intro x _ h; omega
    | succ n ih =>
      intro x hx hn hg
      rw [f_X3_place_L3]
      by_cases e : x = 10
      · subst e
        have hg' : 10 = pgT s (cl t) := hg
        rw [if_pos (by omega), if_neg (by omega)]
      · rw [if_neg (by omega), x3_hasRoom h (by omega), bs]
        rw [show 10 - x = (10 - (x + 1)) + 1 by omega] at hg
        unfold firstZ at hg
        by_cases e2 : cl t ≤ fr s x
        · have e3 : f x = 0 := if_pos e2
          rw [if_pos e3] at hg
          subst hg
          have h9 := loE_lt h.1 (p := pgT s (cl t)) (by omega) (by omega)
          rw [if_neg (by rw [if_neg (by omega)]; decide), x3_lowestGap h (by omega), bs, if_pos h9, if_neg (by omega)]
          show (f_X3_occupy β ((spT s (cl t) : Nat) : Int) _ _ _).bind _ = _
          rw [h.x3o (by unfold spT; omega) (by omega), bs, if_pos (by omega)]
          rfl
        · have e3 : f x ≠ 0 := by show (if cl t ≤ fr s x then (0 : Int) else 1) ≠ 0; rw [if_neg e2]; decide
          rw [if_neg e3] at hg
          rw [if_pos (by rw [if_pos (by omega)]), ck_t (by omega), bs]
          exact ih (x + 1) (by omega) (by omega) hg
  exact key fu 0 (by omega) (fu_lt (by omega)) rfl
