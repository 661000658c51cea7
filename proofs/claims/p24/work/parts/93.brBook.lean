/-! BRIDGE: rows and Book -/
theorem b_hasMoved {β : Blk} {r : Nat} : LeI (f_X0_hasMoved (VW β) (r : Int)) (g_X7_hasMoved β r) := by
  unfold f_X0_hasMoved g_X7_hasMoved
  refine le_lr (k := 3) (by omega) rfl fun _ => ?_
  refine le_lr (k := 2) (by omega) rfl fun _ => ?_
  exact le_rf
theorem gd_nat {α : Type} {r : Nat} {K : Option α} (hr : r < 30) : gd (r : Int) 30 K = K := gd_t (by omega) (by omega)
theorem b_cost {β : Blk} {r : Nat} (hr : r < 30) : LeI (f_X0_costOf (VW β) (r : Int)) (g_X7_cost β r) := by
  have key : ∀ (n : Nat) (x y z : Int), LeI (f_X0_costOf_L32 (VW β) (r : Int) n x y z) (g_X7_cost_L27 β r n x y z) := by
    intro n
    induction n with
    | zero => intro x y z; exact le_none
    | succ n ih =>
      intro x y z
      rw [f_X0_costOf_L32, g_X7_cost_L27]
      refine le_lr (k := 4) (by omega) rfl fun _ => ?_
      refine le_ite (fun _ => le_rf) (fun _ => ?_)
      rw [gd_nat hr, Int.toNat_natCast]
      refine le_atS hr fun q e hq => ?_
      refine le_dv2 fun _ => ?_
      dsimp only [jp]
      refine le_ite (fun _ => ?_) (fun _ => ?_)
      · refine le_ck2 fun _ => ?_
        exact ih _ _ _
      · refine le_ck2 fun _ => ?_
        refine le_ck2 fun _ => ?_
        exact ih _ _ _
  unfold f_X0_costOf g_X7_cost
  refine le_lr (k := 3) (by omega) rfl fun _ => ?_
  refine le_dv2 fun _ => ?_
  refine le_lr (k := 2) (by omega) rfl fun _ => ?_
  refine le_dv2 fun _ => ?_
  dsimp only [jp]
  refine le_ite (fun _ => ?_) (fun _ => ?_)
  · exact key _ _ _ _
  · exact key _ _ _ _
/-- a row's number, -1 for none -/
def RN (y x : Int) : Prop := y = x ∧ (x = -1 ∨ (0 ≤ x ∧ x < 30))
theorem b_rowOf {β : Blk} {a : Int} : Le RN (f_X0_rowOf (VW β) a) (g_X0_rowOf β a) := by
  unfold f_X0_rowOf g_X0_rowOf
  by_cases h0 : a < 0
  · rw [if_pos h0, at_o (by omega), bs, if_pos (by omega)]
    exact le_ret ⟨rfl, Or.inl rfl⟩
  rw [if_neg h0]
  by_cases h1 : a < 100
  · rw [if_pos h1, at_t a.toNat (by omega) (by omega), ld_t a.toNat (by omega) (by omega), bs, bs, vw_6]
    refine le_ite (fun _ => le_ret ⟨rfl, Or.inl rfl⟩) (fun h2 => ?_)
    refine le_ite (fun h3 => ?_) (fun _ => le_ret ⟨rfl, Or.inl rfl⟩)
    rw [gk_t (q := (β 7 a.toNat).toNat) (by omega) (by omega)]
    exact le_ret ⟨by omega, Or.inr ⟨by omega, h3⟩⟩
  · rw [if_neg h1, at_o (by omega), bs, if_pos (by omega)]
    exact le_ret ⟨rfl, Or.inl rfl⟩
/-- a row or -1, and the Book behind it -/
def RV2 (y x : Int × Blk) : Prop := y.1 = x.1 ∧ (x.1 = -1 ∨ (0 ≤ x.1 ∧ x.1 < 30)) ∧ VW y.2 = x.2
theorem b_addRow {β : Blk} {a : Int} : Le RV2 (f_X0_addRow (VW β) a) (g_X0_addRow β a) := by
  have key : ∀ (n : Nat) (x : Int), Le RV2 (f_X0_addRow_L2 (VW β) a n x) (g_X0_addRow_L2 β a n x) := by
    intro n
    induction n with
    | zero => intro x; exact le_none
    | succ n ih =>
      intro x
      rw [f_X0_addRow_L2, g_X0_addRow_L2]
      refine le_ite (fun _ => le_ret ⟨rfl, Or.inl rfl, rfl⟩) (fun _ => ?_)
      refine le_ld fun q e hq => ?_
      subst e
      rw [gk_t rfl hq, vw_7]
      dsimp only [jp]
      refine le_ite (fun _ => ?_) (fun _ => ?_)
      · refine le_ck2 fun _ => ?_
        exact ih _
      · refine le_sr (k := 0) (by omega) rfl fun _ => ?_
        rw [pf_t]
        refine le_st6 fun q2 e2 hq2 => ?_
        rw [vw_lo (show 0 < 6 by omega)]
        refine le_ck2 fun _ => ?_
        refine le_pfB (by omega) ?_
        exact le_ret ⟨rfl, Or.inr ⟨by show (0 : Int) ≤ (q : Int); omega, by show (q : Int) < 30; omega⟩, rfl⟩
  exact key _ _
theorem b_headLetters {β : Blk} {r : Nat} : LeI (f_X0_headLetters (VW β) (r : Int)) (g_X0_headLetters β r) := by
  unfold f_X0_headLetters g_X0_headLetters
  refine le_lr (k := 1) (by omega) rfl fun _ => ?_
  exact le_rf
theorem b_headCells {β : Blk} {r : Nat} : LeI (f_X0_headCells (VW β) (r : Int)) (g_X0_headCells β r) := by
  unfold f_X0_headCells g_X0_headCells
  refine le_bindI b_headLetters fun v => ?_
  exact le_rf
theorem b_layPieces {β : Blk} {r : Nat} (hr : r < 30) : LeW (f_X0_layPieces (VW β) (r : Int)) (g_X0_layPieces β r) := by
  have key : ∀ (n : Nat) (x y : Int) (β : Blk), LeW (f_X0_layPieces_L15 (r : Int) n x y (VW β)) (g_X0_layPieces_L18 r n x y β) := by
    intro n
    induction n with
    | zero => intro x y β; exact le_none
    | succ n ih =>
      intro x y β
      rw [f_X0_layPieces_L15, g_X0_layPieces_L18]
      refine le_ite (fun _ => le_ret ⟨rfl, rfl⟩) (fun _ => ?_)
      refine le_ite (fun _ => le_ret ⟨rfl, rfl⟩) (fun _ => ?_)
      rw [vw_lo (show 0 < 6 by omega)]
      refine le_nm2 ?_
      refine le_lr (k := 0) (by omega) rfl fun _ => ?_
      refine le_ck2 fun _ => ?_
      refine le_bd2 b_place fun v σ => ?_
      refine le_ite (fun _ => ?_) (fun _ => le_ret ⟨rfl, rfl⟩)
      rw [gd_nat hr, Int.toNat_natCast]
      refine le_stS hr fun q e hq => ?_
      refine le_lr (k := 4) (by omega) rfl fun _ => ?_
      refine le_ck2 fun _ => ?_
      refine le_sr (k := 4) (by omega) rfl fun _ => ?_
      rw [pf_t]
      refine le_ck2 fun _ => ?_
      refine le_ck2 fun _ => ?_
      exact ih _ _ _
  unfold f_X0_layPieces g_X0_layPieces
  refine le_lr (k := 1) (by omega) rfl fun _ => ?_
  refine le_bindI b_headLetters fun v => ?_
  refine le_ck2 fun _ => ?_
  refine le_sr (k := 4) (by omega) rfl fun _ => ?_
  rw [pf_t]
  exact key _ _ _ _
theorem b_layNew {β : Blk} {r : Nat} (hr : r < 30) : LeW (f_X0_layNew (VW β) (r : Int)) (g_X0_layNew β r) := by
  unfold f_X0_layNew g_X0_layNew
  refine le_lr (k := 0) (by omega) rfl fun _ => ?_
  refine le_bindI b_headCells fun v => ?_
  refine le_bd2 b_place fun w σ => ?_
  refine le_sr (k := 2) (by omega) rfl fun _ => ?_
  refine le_sr (k := 3) (by omega) rfl fun _ => ?_
  rw [pf_t, pf_t, up2_s, up2_s]
  refine le_ite (fun _ => le_ret ⟨rfl, rfl⟩) (fun _ => ?_)
  refine le_bd2 (b_layPieces hr) fun w2 σ2 => ?_
  exact le_ite (fun _ => le_ret ⟨rfl, rfl⟩) (fun _ => le_ret ⟨rfl, rfl⟩)
theorem b_lift {β : Blk} {r : Nat} (hr : r < 30) : LeB (f_X0_liftPieces (VW β) (r : Int)) (g_X0_liftPieces β r) := by
  have key : ∀ (j : Blk → Option Blk) (j' : Blk → Option Blk), (∀ β, LeB (j (VW β)) (j' β)) → ∀ (n : Nat) (x : Int) (β : Blk), LeB (f_X0_liftPieces_L2 (r : Int) j n x (VW β)) (g_X0_liftPieces_L2 r j' n x β) := by
    intro j j' hj n
    induction n with
    | zero => intro x β; exact le_none
    | succ n ih =>
      intro x β
      rw [f_X0_liftPieces_L2, g_X0_liftPieces_L2]
      refine le_lr (k := 4) (by omega) rfl fun _ => ?_
      refine le_ite (fun _ => hj β) (fun _ => ?_)
      rw [gd_nat hr, Int.toNat_natCast]
      refine le_atS hr fun q e hq => ?_
      refine le_bindB b_vacate fun σ => ?_
      refine le_ck2 fun _ => ?_
      exact ih _ _
  unfold f_X0_liftPieces g_X0_liftPieces
  dsimp only [jp]
  refine key _ _ (fun β => ?_) _ _ _
  refine le_sr (k := 4) (by omega) rfl fun _ => ?_
  exact le_ret rfl
theorem b_layHeadAgain {β : Blk} {r : Nat} (hr : r < 30) : LeW (f_X0_layHeadAgain (VW β) (r : Int)) (g_X0_layHeadAgain β r) := by
  unfold f_X0_layHeadAgain g_X0_layHeadAgain
  refine le_lr (k := 0) (by omega) rfl fun _ => ?_
  refine le_lr (k := 2) (by omega) rfl fun _ => ?_
  refine le_lr (k := 3) (by omega) rfl fun _ => ?_
  refine le_bindI b_headCells fun v => ?_
  refine le_dv2 fun _ => ?_
  refine le_bindI b_hasRoom fun w => ?_
  refine le_ite (fun _ => ?_) (fun _ => ?_)
  · unfold g_X7_hasMoved
    by_cases e : β (8 + 3 * r) 3 = β (8 + 3 * r) 2
    · rw [if_neg (show ¬ β (8 + 3 * r) 3 ≠ β (8 + 3 * r) 2 by omega), if_pos e, bs, if_neg (by decide)]
      refine le_bind b_occupyF fun x y h => ?_
      obtain ⟨h1, h2⟩ := h
      subst h1
      rw [h2 (8 + 3 * r) (by omega)]
      refine le_bd2 b_place fun w2 σ2 => ?_
      exact le_ret ⟨rfl, rfl⟩
    · rw [if_pos (show β (8 + 3 * r) 3 ≠ β (8 + 3 * r) 2 from e), if_neg e, bs, if_pos (by decide)]
      refine le_dv2 fun _ => ?_
      refine le_ck2 fun _ => ?_
      refine le_bindI b_hasRoom fun w2 => ?_
      refine le_ite (fun _ => ?_) (fun _ => ?_)
      · refine le_bd2 b_place fun w2 σ2 => ?_
        exact le_ret ⟨rfl, rfl⟩
      · refine le_bind b_vacateF fun x y h => ?_
        obtain ⟨h1, h2⟩ := h
        subst h1
        rw [h2 (8 + 3 * r) (by omega)]
        refine le_bind b_occupyF fun x z h => ?_
        obtain ⟨h3, h4⟩ := h
        subst h3
        rw [h4 (8 + 3 * r) (by omega), h2 (8 + 3 * r) (by omega)]
        exact le_ret ⟨rfl, rfl⟩
  · refine le_bind b_occupyF fun x y h => ?_
    obtain ⟨h1, h2⟩ := h
    subst h1
    rw [h2 (8 + 3 * r) (by omega)]
    exact le_ret ⟨rfl, rfl⟩
theorem b_layAgain {β : Blk} {r : Nat} (hr : r < 30) : LeW (f_X0_layAgain (VW β) (r : Int)) (g_X0_layAgain β r) := by
  unfold f_X0_layAgain g_X0_layAgain
  refine le_bindB (b_lift hr) fun σ1 => ?_
  refine le_lr (k := 3) (by omega) rfl fun _ => ?_
  refine le_bindB b_vacate fun σ3 => ?_
  refine le_bd2 (b_layHeadAgain hr) fun v σ4 => ?_
  refine le_sr (k := 3) (by omega) rfl fun _ => ?_
  refine le_lr (k := 3) (by omega) rfl fun _ => ?_
  rw [pf_t, up2_s]
  refine le_ite (fun _ => le_ret ⟨rfl, rfl⟩) (fun _ => ?_)
  refine le_bd2 (b_layPieces hr) fun w2 σ2 => ?_
  exact le_ite (fun _ => le_ret ⟨rfl, rfl⟩) (fun _ => le_ret ⟨rfl, rfl⟩)
theorem b_layRow {β : Blk} {a len : Int} : Le RV2 (f_X0_layRow (VW β) a len) (g_X0_layRow β a len) := by
  unfold f_X0_layRow g_X0_layRow
  refine le_bind b_rowOf fun x y h => ?_
  obtain ⟨h1, h2⟩ := h
  subst h1
  rcases h2 with h2 | h2
  · subst h2
    rw [if_neg (show ¬ ((-1 : Int) ≠ -1) by decide), if_pos (show (-1 : Int) < 0 by decide)]
    refine le_bind b_addRow fun x z h => ?_
    obtain ⟨h3, h4, h5⟩ := h
    show Le RV2 (if x.1 ≠ (-1) then _ else _) (if z.1 < 0 then _ else _)
    rw [h3, ← h5]
    rcases h4 with h4 | h4
    · rw [h4, if_neg (show ¬ ((-1 : Int) ≠ -1) by decide), if_pos (show (-1 : Int) < 0 by decide)]
      exact le_ret ⟨rfl, Or.inl rfl, rfl⟩
    · obtain ⟨r, hr⟩ : ∃ r : Nat, x.1 = r := ⟨x.1.toNat, by omega⟩
      rw [hr, if_pos (show (r : Int) ≠ -1 by omega), if_neg (show ¬ (r : Int) < 0 by omega), gk_t rfl (by omega)]
      refine le_sr (k := 1) (by omega) rfl fun hr2 => ?_
      rw [pf_t]
      refine le_bind (b_layNew hr2) fun u w h => ?_
      obtain ⟨h6, h7⟩ := h
      show Le RV2 (if u.1 = 0 then _ else _) (if w.1 = 0 then _ else _)
      rw [h6, ← h7]
      exact le_ite (fun _ => le_ret ⟨rfl, Or.inl rfl, rfl⟩) (fun _ => le_ret ⟨rfl, Or.inr ⟨by show (0 : Int) ≤ (r : Int); omega, by show (r : Int) < 30; omega⟩, rfl⟩)
  · obtain ⟨r, hr⟩ : ∃ r : Nat, y = r := ⟨y.toNat, by omega⟩
    subst hr
    rw [if_pos (show (r : Int) ≠ -1 by omega), if_neg (show ¬ (r : Int) < 0 by omega), gk_t rfl (by omega)]
    refine le_sr (k := 1) (by omega) rfl fun hr2 => ?_
    rw [pf_t]
    refine le_bind (b_layAgain hr2) fun u w h => ?_
    obtain ⟨h6, h7⟩ := h
    show Le RV2 (if u.1 = 0 then _ else _) (if w.1 = 0 then _ else _)
    rw [h6, ← h7]
    exact le_ite (fun _ => le_ret ⟨rfl, Or.inl rfl, rfl⟩) (fun _ => le_ret ⟨rfl, Or.inr ⟨by show (0 : Int) ≤ (r : Int); omega, by show (r : Int) < 30; omega⟩, rfl⟩)
theorem b_removeRow {β : Blk} {r : Nat} (hr : r < 30) : LeB (f_X0_removeRow (VW β) (r : Int)) (g_X0_removeRow β r) := by
  have tail : ∀ σ : Blk, LeB (Option.bind (ld (VW σ) 7 30 (r : Int)) fun v7 => Option.bind (sw (VW σ) 6 100 v7 ((-1))) fun σ8 => Option.bind (sw σ8 7 30 (r : Int) ((-1))) fun σ9 => Option.bind (ck ((σ9 0 2) - 1)) fun v10 => pf σ9 0 2 v10 fun σ11 => some σ11) (Option.bind (g_X4_store σ 7 100 (σ (8 + 3 * r) 0) ((-1))) fun σ6 => pf σ6 (8 + 3 * r) 0 ((-1)) fun σ7 => Option.bind (ck ((σ7 0 2) - 1)) fun v8 => pf σ7 0 2 v8 fun σ9 => some σ9) := by
    intro σ
    refine le_lr (k := 0) (by omega) rfl fun _ => ?_
    refine le_st6 fun q e hq => ?_
    refine le_sr (k := 0) (by omega) rfl fun _ => ?_
    rw [pf_t, vw_lo (show 0 < 6 by omega)]
    refine le_ck2 fun _ => ?_
    refine le_pfB (by omega) ?_
    exact le_ret rfl
  unfold f_X0_removeRow g_X0_removeRow
  refine le_bindB (b_lift hr) fun σ1 => ?_
  refine le_lr (k := 3) (by omega) rfl fun _ => ?_
  refine le_bindB b_vacate fun σ3 => ?_
  refine le_bindI b_hasMoved fun v => ?_
  dsimp only [jp]
  refine le_ite (fun _ => tail _) (fun _ => ?_)
  refine le_lr (k := 2) (by omega) rfl fun _ => ?_
  refine le_bindB b_vacate fun σ4 => ?_
  exact tail _
theorem layNew_no {σ : Blk} {v : Int} (h : ¬ (0 ≤ v ∧ v < 30)) : f_X0_layNew σ v = none := by
  unfold f_X0_layNew ld
  rw [if_neg (show ¬ (0 ≤ v ∧ v < ((30 : Nat) : Int)) from h)]
  rfl
theorem b_packAll {β : Blk} : LeW (f_X0_packAll (VW β)) (g_X0_packAll β) := by
  have key : ∀ (n : Nat) (x : Int) (β : Blk), LeW (f_X0_packAll_L9 n x (VW β)) (g_X0_packAll_L9 n x β) := by
    intro n
    induction n with
    | zero => intro x β; exact le_none
    | succ n ih =>
      intro x β
      rw [f_X0_packAll_L9, g_X0_packAll_L9]
      refine le_ite (fun _ => le_ret ⟨rfl, rfl⟩) (fun _ => ?_)
      refine le_ld fun q e hq => ?_
      subst e
      unfold g_X0_rowOf
      rw [at_t q rfl hq, bs, vw_6]
      dsimp only [jp]
      by_cases e1 : β 7 q = -1
      · rw [if_pos e1, if_pos (show β 7 q < 0 by omega), bs, if_pos (show (-1 : Int) < 0 by decide)]
        refine le_ck2 fun _ => ?_
        exact ih _ _
      · rw [if_neg e1, ld_t q rfl hq, bs, vw_6]
        by_cases e2 : 0 ≤ β 7 q ∧ β 7 q < 30
        · obtain ⟨r, hr⟩ : ∃ r : Nat, β 7 q = r := ⟨(β 7 q).toNat, by omega⟩
          rw [hr, if_neg (show ¬ (r : Int) < 0 by omega), if_pos (show (r : Int) < 30 by omega), gk_t rfl (by omega), bs, if_neg (show ¬ (r : Int) < 0 by omega), gk_t rfl (by omega)]
          refine le_bd2 (b_layNew (by omega)) fun v σ => ?_
          refine le_ite (fun _ => ?_) (fun _ => le_ret ⟨rfl, rfl⟩)
          refine le_ck2 fun _ => ?_
          exact ih _ _
        · rw [layNew_no e2]
          exact le_none
  unfold f_X0_packAll g_X0_packAll
  refine le_bindB b_clear fun σ => ?_
  exact key _ _ _
theorem b_cellsOf {β : Blk} {r : Nat} (hr : r < 30) : LeI (f_X0_cellsOf (VW β) (r : Int)) (g_X0_cellsOf β r) := by
  have key : ∀ (j : Int → Option Int) (j' : Int → Option Int), (∀ v, LeI (j v) (j' v)) → ∀ (n : Nat) (s x : Int), LeI (f_X0_cellsOf_L17 (VW β) (r : Int) j n s x) (g_X0_cellsOf_L17 β r j' n s x) := by
    intro j j' hj n
    induction n with
    | zero => intro s x; exact le_none
    | succ n ih =>
      intro s x
      rw [f_X0_cellsOf_L17, g_X0_cellsOf_L17]
      refine le_lr (k := 4) (by omega) rfl fun _ => ?_
      refine le_ite (fun _ => hj s) (fun _ => ?_)
      rw [gd_nat hr, Int.toNat_natCast]
      refine le_atS hr fun q e hq => ?_
      refine le_atB (by omega) fun q2 e2 hq2 => ?_
      refine le_ck2 fun _ => ?_
      refine le_ck2 fun _ => ?_
      exact ih _ _
  unfold f_X0_cellsOf g_X0_cellsOf
  refine le_lr (k := 3) (by omega) rfl fun _ => ?_
  refine le_atB (by omega) fun q e hq => ?_
  dsimp only [jp]
  refine key _ _ (fun v => ?_) _ _ _
  refine le_bindI b_hasMoved fun w => ?_
  exact le_rf
theorem b_costInAll {β : Blk} : LeI (f_X0_costInAll (VW β)) (g_X0_costInAll β) := by
  have key : ∀ (n : Nat) (s x : Int), LeI (f_X0_costInAll_L4 (VW β) n s x) (g_X0_costInAll_L4 β n s x) := by
    intro n
    induction n with
    | zero => intro s x; exact le_none
    | succ n ih =>
      intro s x
      rw [f_X0_costInAll_L4, g_X0_costInAll_L4]
      refine le_ite (fun _ => le_rf) (fun _ => ?_)
      refine le_bind b_rowOf fun v y h => ?_
      obtain ⟨h1, h2⟩ := h
      subst h1
      dsimp only [jp]
      rcases h2 with h2 | h2
      · rw [if_pos h2, if_pos (by omega)]
        refine le_ck2 fun _ => ?_
        exact ih _ _
      · obtain ⟨r, hr⟩ : ∃ r : Nat, y = r := ⟨y.toNat, by omega⟩
        subst hr
        rw [if_neg (show ¬ (r : Int) = -1 by omega), if_neg (show ¬ (r : Int) < 0 by omega), gk_t rfl (by omega)]
        refine le_bindI (b_cost (by omega)) fun w => ?_
        refine le_ck2 fun _ => ?_
        refine le_ck2 fun _ => ?_
        exact ih _ _
  exact key _ _ _
theorem b_greatest {β : Blk} : LeI (f_X0_greatestCost (VW β)) (g_X0_greatestCost β) := by
  have key : ∀ (n : Nat) (s x : Int), LeI (f_X0_greatestCost_L4 (VW β) n s x) (g_X0_greatestCost_L4 β n s x) := by
    intro n
    induction n with
    | zero => intro s x; exact le_none
    | succ n ih =>
      intro s x
      rw [f_X0_greatestCost_L4, g_X0_greatestCost_L4]
      refine le_ite (fun _ => le_rf) (fun _ => ?_)
      refine le_bind b_rowOf fun v y h => ?_
      obtain ⟨h1, h2⟩ := h
      subst h1
      dsimp only [jp]
      rcases h2 with h2 | h2
      · rw [if_pos h2, if_pos (by omega)]
        refine le_ck2 fun _ => ?_
        exact ih _ _
      · obtain ⟨r, hr⟩ : ∃ r : Nat, y = r := ⟨y.toNat, by omega⟩
        subst hr
        rw [if_neg (show ¬ (r : Int) = -1 by omega), if_neg (show ¬ (r : Int) < 0 by omega), gk_t rfl (by omega)]
        refine le_bindI (b_cost (by omega)) fun w => ?_
        refine le_nm2 ?_
        refine le_ck2 fun _ => ?_
        exact ih _ _
  exact key _ _ _
theorem b_letters {β : Blk} : LeI (f_X0_lettersInAll (VW β)) (g_X0_lettersInAll β) := by
  have key : ∀ (n : Nat) (s x : Int), LeI (f_X0_lettersInAll_L4 (VW β) n s x) (g_X0_lettersInAll_L4 β n s x) := by
    intro n
    induction n with
    | zero => intro s x; exact le_none
    | succ n ih =>
      intro s x
      rw [f_X0_lettersInAll_L4, g_X0_lettersInAll_L4]
      refine le_ite (fun _ => le_rf) (fun _ => ?_)
      refine le_bind b_rowOf fun v y h => ?_
      obtain ⟨h1, h2⟩ := h
      subst h1
      dsimp only [jp]
      rcases h2 with h2 | h2
      · rw [if_pos h2, if_pos (by omega)]
        refine le_ck2 fun _ => ?_
        exact ih _ _
      · obtain ⟨r, hr⟩ : ∃ r : Nat, y = r := ⟨y.toNat, by omega⟩
        subst hr
        rw [if_neg (show ¬ (r : Int) = -1 by omega), if_neg (show ¬ (r : Int) < 0 by omega), gk_t rfl (by omega)]
        refine le_lr (k := 1) (by omega) rfl fun _ => ?_
        refine le_ck2 fun _ => ?_
        refine le_ck2 fun _ => ?_
        exact ih _ _
  exact key _ _ _
