/-! PURE: cost and cells of a row -/
theorem x5_costOf {σ : Blk} {at_ ho np : Nat → Int} {w : Nat → Prop} {pp : Nat → Nat → Int} (hT : TK (σ 1)) (h : FI (σ 1) w at_ ho np pp (fun _ => False)) {r : Nat} (hr : r < 30) (hw : w r) (h3 : pt (σ 1) r 3 = ho r) (h4 : pt (σ 1) r 4 = at_ r) : ∃ σ', f_X5_costOf σ r = some (costV (at_ r) (ho r) (pp r) (np r).toNat, σ') ∧ Fz σ σ' := by
  obtain ⟨σ1, f1, f2, f3, f4⟩ := x5_findPieces hT h hr hw
  obtain ⟨-, a4, a5, -, hn, h8⟩ := h.own hr hw
  have e1 : σ1 1 = σ 1 := f2.1 1 (by omega) (by omega)
  refine ⟨σ1, ?_, f2⟩
  generalize hB : (if at_ r / 40 ≠ ho r / 40 then (2 : Int) else 1) = B
  have hBr : 0 ≤ B ∧ B ≤ 2 := by rw [← hB]; split <;> omega
  have hdef : costV (at_ r) (ho r) (pp r) (np r).toNat = B + sumN (fun i => if pp r i / 40 = gpg (at_ r) (pp r) i then 0 else 1) (np r).toNat := by unfold costV; rw [hB]
  have key := loopUp (F := fun n (x : Nat) => f_X5_costOf_L20 r σ1 n (gpg (at_ r) (pp r) x) (B + sumN (fun i => if pp r i / 40 = gpg (at_ r) (pp r) i then 0 else 1) x) (x : Int)) (R := some (costV (at_ r) (ho r) (pp r) (np r).toNat, σ1)) (np r).toNat (fun n x hx => ?_) (fun n => ?_) (fu - 1) 0 (by omega) (by have : fu = 10000 := rfl; omega)
  · unfold f_X5_costOf
    rw [f1, bs, x5_part r 3 rfl (by omega) hr (by omega), bs, e1, h3, dv_t (by omega), bs]
    have key2 : f_X5_costOf_L20 r σ1 (fu - 1) (at_ r / 40) B 0 = some (costV (at_ r) (ho r) (pp r) (np r).toNat, σ1) := by
      have := key
      simp only [sumN, gpg, Int.add_zero] at this
      exact this
    show f_X5_costOf_L20 r σ1 ((fu - 1) + 1) _ _ _ = _
    rw [f_X5_costOf_L20, f3, if_neg (by omega)]
    dsimp only [jp]
    rw [if_neg (by omega), x5_part r 4 rfl (by omega) hr (by omega), bs, e1, h4, dv_t (by omega), bs]
    by_cases e : at_ r / 40 ≠ ho r / 40
    · rw [if_pos e] at hB ⊢
      rw [ck_t (by omega), bs, ck_t (by omega), bs]
      subst hB
      exact key2
    · rw [if_neg e] at hB ⊢
      rw [ck_t (by omega), bs, ck_t (by omega), bs]
      subst hB
      exact key2
  · show f_X5_costOf_L20 _ _ _ _ _ _ = f_X5_costOf_L20 _ _ _ _ _ _
    have h9 := (h8 x (by omega)).1
    have hc := cost_rng (at_ r) (pp r) x
    rw [f_X5_costOf_L20, f3, if_neg (by omega)]
    dsimp only [jp]
    rw [if_pos (by omega), ld_t x rfl (by omega), bs, f4 x (by omega), dv_t (by omega), bs]
    have e3 : gpg (at_ r) (pp r) (x + 1) = pp r x / 40 := rfl
    have e4 : sumN (fun i => if pp r i / 40 = gpg (at_ r) (pp r) i then (0 : Int) else 1) (x + 1) = sumN (fun i => if pp r i / 40 = gpg (at_ r) (pp r) i then (0 : Int) else 1) x + if pp r x / 40 = gpg (at_ r) (pp r) x then 0 else 1 := rfl
    rw [e3, e4]
    generalize sumN (fun i => if pp r i / 40 = gpg (at_ r) (pp r) i then (0 : Int) else 1) x = S at hc ⊢
    by_cases e : pp r x / 40 = gpg (at_ r) (pp r) x
    · rw [if_neg (by omega), if_pos e, ck_t (by omega), bs, ck_t (by omega), bs, Int.add_zero, Int.add_zero]
      rfl
    · rw [if_pos (by omega), if_neg e, ck_t (by omega), bs, ck_t (by omega), bs, ← Int.add_assoc]
      rfl
  · show f_X5_costOf_L20 _ _ _ _ _ _ = _
    rw [f_X5_costOf_L20, f3, if_pos (by omega), hdef]
theorem x5_hasMoved {σ : Blk} {r : Nat} (hr : r < 30) : f_X5_hasMoved σ r = some (if pt (σ 1) r 3 = pt (σ 1) r 4 then 0 else 1) := by
  unfold f_X5_hasMoved
  rw [x5_part r 3 rfl (by omega) hr (by omega), bs, x5_part r 4 rfl (by omega) hr (by omega), bs]
  split <;> rfl
theorem x0_hasMoved {β : Blk} {r : Nat} (hr : r < 30) : f_X0_hasMoved β r = some (if β 10 r = β 9 r then 0 else 1) := by
  unfold f_X0_hasMoved
  rw [ld_t r rfl hr, bs, ld_t r rfl hr, bs]
  split <;> rfl
theorem cells_rng {s : Nat → Int} (hT : TK s) {p : Nat → Int} {n : Nat} (h : ∀ i, i < n → 0 ≤ p i ∧ p i < 400) : 0 ≤ sumN (fun i => cl (s (363 + (p i).toNat))) n ∧ sumN (fun i => cl (s (363 + (p i).toNat))) n ≤ n * 18 := by
  constructor
  · refine sumN_nonneg (fun i hi => ?_)
    have := h i hi
    exact (cl_rng (hT _ (by omega))).1
  · refine sumN_le (fun i hi => ?_)
    have := h i hi
    exact (cl_rng (hT _ (by omega))).2.1
theorem x0_cellsOf {β : Blk} {s ow : Nat → Int} {w : Nat → Prop} (hP : PG β s ow) (h : FI s w (β 10) (β 9) (β 11) (fun x i => β (13 + x) i) (fun _ => False)) {r : Nat} (hr : r < 30) (hw : w r) : f_X0_cellsOf β r = some (cellV s (β 10 r) (β 9 r) (β (13 + r)) (β 11 r).toNat) := by
  obtain ⟨-, h4, h5, -, hn, h8⟩ := h.own hr hw
  have h8' : ∀ i, i < (β 11 r).toNat → 0 ≤ β (13 + r) i ∧ β (13 + r) i < 400 := fun i hi => (h8 i (by omega)).1
  have hc0 := cl_rng (hP.1 (β 10 r).toNat (by omega))
  generalize hC : cl (s (363 + (β 10 r).toNat)) = C at hc0
  generalize hM : (if β 10 r = β 9 r then (0 : Int) else 1) = M
  have hMr : 0 ≤ M ∧ M ≤ 1 := by rw [← hM]; split <;> omega
  have key := loopUp (F := fun n (x : Nat) => f_X0_cellsOf_L17 β r (fun (x4 : Int) => Option.bind (f_X0_hasMoved β r) fun r5 => if r5 = 0 then (some x4) else (Option.bind (ck (x4 + 1)) fun v6 => some v6)) n (C + sumN (fun i => cl (s (363 + (β (13 + r) i).toNat))) x) (x : Int)) (R := some (cellV s (β 10 r) (β 9 r) (β (13 + r)) (β 11 r).toNat)) (β 11 r).toNat (fun n x hx => ?_) (fun n => ?_) fu 0 (by omega) (fu_lt (by omega))
  · unfold f_X0_cellsOf
    rw [ld_t r rfl hr, bs, ld_t (β 10 r).toNat (by omega) (by omega), bs, (hP.2.1 _ (by omega)).2.1, hC]
    dsimp only [jp]
    have := key
    simp only [sumN, Int.add_zero] at this
    exact this
  · show f_X0_cellsOf_L17 _ _ _ _ _ _ = f_X0_cellsOf_L17 _ _ _ _ _ _
    have h9 := h8' x hx
    have hr1 := cells_rng hP.1 (p := β (13 + r)) (n := x) (fun i hi => h8' i (by omega))
    have hr2 := cl_rng (hP.1 (β (13 + r) x).toNat (by omega))
    rw [f_X0_cellsOf_L17, ld_t r rfl hr, bs, if_neg (by omega), gd_t (by omega) (by omega), Int.toNat_natCast, ld_t x rfl (by omega), bs, ld_t (β (13 + r) x).toNat (by omega) (by omega), bs, (hP.2.1 _ (by omega)).2.1, ck_t (by omega), bs, ck_t (by omega), bs, Int.add_assoc]
    rfl
  · show f_X0_cellsOf_L17 _ _ _ _ _ _ = _
    have hr1 := cells_rng hP.1 (p := β (13 + r)) (n := (β 11 r).toNat) h8'
    rw [f_X0_cellsOf_L17, ld_t r rfl hr, bs, if_pos (by omega), x0_hasMoved hr, bs]
    unfold cellV
    rw [hC]
    by_cases e : β 10 r = β 9 r
    · rw [if_pos e, if_pos rfl, Int.add_zero]
    · rw [if_neg e, if_neg (by decide), ck_t (by omega), bs]
      congr 1
      omega
theorem x5_cellsOfRow {σ : Blk} {at_ ho np : Nat → Int} {w : Nat → Prop} {pp : Nat → Nat → Int} (hT : TK (σ 1)) (h : FI (σ 1) w at_ ho np pp (fun _ => False)) {r : Nat} (hr : r < 30) (hw : w r) (h3 : pt (σ 1) r 3 = ho r) (h4 : pt (σ 1) r 4 = at_ r) : ∃ σ', f_X5_cellsOfRow σ r = some (cellV (σ 1) (at_ r) (ho r) (pp r) (np r).toNat, σ') ∧ Fz σ σ' := by
  obtain ⟨σ1, f1, f2, f3, f4⟩ := x5_findPieces hT h hr hw
  obtain ⟨-, a4, a5, -, hn, h8⟩ := h.own hr hw
  have e1 : σ1 1 = σ 1 := f2.1 1 (by omega) (by omega)
  refine ⟨σ1, ?_, f2⟩
  have h8' : ∀ i, i < (np r).toNat → 0 ≤ pp r i ∧ pp r i < 400 := fun i hi => (h8 i (by omega)).1
  have hc0 := cl_rng (hT (at_ r).toNat (by omega))
  generalize hC : cl (σ 1 (363 + (at_ r).toNat)) = C at hc0
  generalize hM : (if at_ r = ho r then (0 : Int) else 1) = M
  have hMr : 0 ≤ M ∧ M ≤ 1 := by rw [← hM]; split <;> omega
  have hdef : cellV (σ 1) (at_ r) (ho r) (pp r) (np r).toNat = C + M + sumN (fun i => cl (σ 1 (363 + (pp r i).toNat))) (np r).toNat := by unfold cellV; rw [hC, hM]
  have key := loopUp (F := fun n (x : Nat) => f_X5_cellsOfRow_L30 σ1 n (C + M + sumN (fun i => cl (σ 1 (363 + (pp r i).toNat))) x) (x : Int)) (R := some (cellV (σ 1) (at_ r) (ho r) (pp r) (np r).toNat, σ1)) (np r).toNat (fun n x hx => ?_) (fun n => ?_) fu 0 (by omega) (fu_lt (by omega))
  · unfold f_X5_cellsOfRow f_X5_headOf
    rw [f1, bs, x5_part r 4 rfl (by omega) hr (by omega), bs, e1, h4, ld_t (363 + (at_ r).toNat) (by omega) (by omega), bs, e1, bs, x5_cells (hT _ (by omega)), bs, hC, x5_hasMoved hr, bs, e1, h3, h4]
    dsimp only [jp]
    have key2 : f_X5_cellsOfRow_L30 σ1 fu (C + M) 0 = some (cellV (σ 1) (at_ r) (ho r) (pp r) (np r).toNat, σ1) := by
      have := key
      simp only [sumN, Int.add_zero] at this
      exact this
    by_cases e : at_ r = ho r
    · rw [if_pos e] at hM
      subst hM
      rw [if_pos (show ho r = at_ r from e.symm), if_pos rfl, ck_t (by omega), bs]
      exact key2
    · rw [if_neg e] at hM
      subst hM
      rw [if_neg (show ¬ ho r = at_ r from fun z => e z.symm), if_neg (by decide), ck_t (by omega), bs]
      exact key2
  · show f_X5_cellsOfRow_L30 _ _ _ _ = f_X5_cellsOfRow_L30 _ _ _ _
    have h9 := h8' x hx
    have hr1 := cells_rng hT (p := pp r) (n := x) (fun i hi => h8' i (by omega))
    have hr2 := cl_rng (hT (pp r x).toNat (by omega))
    rw [f_X5_cellsOfRow_L30, f3, if_neg (by omega), ld_t x rfl (by omega), bs, f4 x (by omega), ld_t (363 + (pp r x).toNat) (by omega) (by omega), bs, e1, x5_cells (hT _ (by omega)), bs, ck_t (by omega), bs, ck_t (by omega), bs, Int.add_assoc (C + M)]
    rfl
  · show f_X5_cellsOfRow_L30 _ _ _ _ = _
    rw [f_X5_cellsOfRow_L30, f3, if_pos (by omega), hdef]
