/-! BRIDGE: Pages -/
theorem b_hasRoom {β : Blk} {a c : Int} : LeI (f_X3_hasRoom (VW β) a c) (g_X3_hasRoom β a c) := by
  unfold f_X3_hasRoom g_X3_hasRoom
  refine le_ldr fun h0 h1 => ?_
  rw [if_neg (by omega), if_neg (by omega)]
  refine le_ldB (by omega) fun q e hq => ?_
  exact le_rf
theorem b_lowestGap {β : Blk} {a : Int} : LeI (f_X3_lowestGap (VW β) a) (g_X3_lowestGap β a) := by
  have key : ∀ (n : Nat) (x : Int), LeI (f_X3_lowestGap_L2 (VW β) a n x) (g_X3_lowestGap_L2 β a n x) := by
    intro n
    induction n with
    | zero => intro x; exact le_none
    | succ n ih =>
      intro x
      rw [f_X3_lowestGap_L2, g_X3_lowestGap_L2]
      refine le_ite (fun _ => le_rf) (fun _ => ?_)
      refine le_ck2 fun _ => ?_
      refine le_atB (by omega) fun q e hq => ?_
      refine le_ite (fun _ => ?_) (fun _ => le_rf)
      refine le_ck2 fun _ => ?_
      exact ih _
  exact key _ _
/-- a Book after a step on its pages: beyond them it is as before -/
def RB5 (β y x : Blk) : Prop := VW y = x ∧ ∀ c, 5 < c → y c = β c
theorem b_occupyF {β : Blk} {a k o c : Int} : Le (RB5 β) (f_X3_occupy (VW β) a k o c) (g_X3_occupy β a k o c) := by
  unfold f_X3_occupy g_X3_occupy
  refine le_swr fun h0 h1 => ?_
  rw [if_neg (by omega), if_neg (by omega)]
  refine le_swB (by omega) fun q1 e1 hq1 => ?_
  refine le_swB (by omega) fun q2 e2 hq2 => ?_
  refine le_swB (by omega) fun q3 e3 hq3 => ?_
  refine le_dv2 fun _ => ?_
  refine le_ldB (by omega) fun q5 e5 hq5 => ?_
  refine le_ck2 fun _ => ?_
  refine le_swB (by omega) fun q7 e7 hq7 => ?_
  refine le_ret ⟨rfl, fun c hc => ?_⟩
  rw [up2_ne (by omega), up2_ne (by omega), up2_ne (by omega), up2_ne (by omega)]
theorem b_vacateF {β : Blk} {a : Int} : Le (RB5 β) (f_X3_vacate (VW β) a) (g_X3_vacate β a) := by
  unfold f_X3_vacate g_X3_vacate
  refine le_dv fun h0 => ?_
  refine le_ldr fun h1 h2 => ?_
  rw [if_neg (by omega), if_neg (by omega), dv_t h0, bs]
  refine le_ldB (by omega) fun q1 e1 hq1 => ?_
  refine le_ldB (by omega) fun q2 e2 hq2 => ?_
  refine le_ck2 fun _ => ?_
  refine le_swB (by omega) fun q3 e3 hq3 => ?_
  refine le_swB (by omega) fun q4 e4 hq4 => ?_
  refine le_swB (by omega) fun q5 e5 hq5 => ?_
  refine le_ret ⟨rfl, fun c hc => ?_⟩
  rw [up2_ne (by omega), up2_ne (by omega), up2_ne (by omega)]
theorem RB5.b {β : Blk} {f g : Option Blk} (h : Le (RB5 β) f g) : LeB f g := fun x hx => by
  obtain ⟨y, h1, h2, -⟩ := h x hx
  exact ⟨y, h1, h2⟩
theorem b_occupy {β : Blk} {a k o c : Int} : LeB (f_X3_occupy (VW β) a k o c) (g_X3_occupy β a k o c) := RB5.b b_occupyF
theorem b_vacate {β : Blk} {a : Int} : LeB (f_X3_vacate (VW β) a) (g_X3_vacate β a) := RB5.b b_vacateF
theorem b_place {β : Blk} {k o c : Int} : LeW (f_X3_place (VW β) k o c) (g_X3_place β k o c) := by
  have key : ∀ (n : Nat) (x : Int), LeW (f_X3_place_L3 (VW β) k o c n x) (g_X3_place_L3 β k o c n x) := by
    intro n
    induction n with
    | zero => intro x; exact le_none
    | succ n ih =>
      intro x
      rw [f_X3_place_L3, g_X3_place_L3]
      refine le_ite (fun _ => le_ret ⟨rfl, rfl⟩) (fun _ => ?_)
      refine le_bindI b_hasRoom fun r => ?_
      refine le_ite (fun _ => ?_) (fun _ => ?_)
      · refine le_ck2 fun _ => ?_
        exact ih _
      · refine le_bindI b_lowestGap fun v => ?_
        refine le_iteL (fun h => ?_) (fun _ => ?_)
        · subst h
          unfold g_X3_occupy
          rw [if_pos (by omega), bs]
          exact le_ret ⟨rfl, rfl⟩
        · refine le_bindB b_occupy fun σ => ?_
          exact le_ret ⟨rfl, rfl⟩
  exact key _ _
theorem b_fill {i n : Nat} {v : Int} (hi : i < 6) {β : Blk} : LeB (f_J7_fill_53178 (VW β) i n v) (f_J7_fill_53178 β i n v) := by
  have key : ∀ (m : Nat) (x : Int) (β : Blk), LeB (f_J7_fill_53178_L5 i n v (n : Int) m x (VW β)) (f_J7_fill_53178_L5 i n v (n : Int) m x β) := by
    intro m
    induction m with
    | zero => intro x β; exact le_none
    | succ m ih =>
      intro x β
      rw [f_J7_fill_53178_L5, f_J7_fill_53178_L5]
      refine le_ite (fun _ => le_ret rfl) (fun _ => ?_)
      refine le_swB hi fun q e hq => ?_
      refine le_ck2 fun _ => ?_
      exact ih _ _
  exact key _ _ _
theorem b_clear {β : Blk} : LeB (f_X3_clear (VW β)) (g_X3_clear β) := by
  unfold f_X3_clear g_X3_clear
  refine le_bindB (b_fill (by omega)) fun _ => ?_
  refine le_bindB (b_fill (by omega)) fun _ => ?_
  refine le_bindB (b_fill (by omega)) fun _ => ?_
  exact le_ret rfl
theorem b_slotsOf {β : Blk} {a : Int} : LeI (f_X3_slotsOf (VW β) a) (g_X3_slotsOf β a) := by
  have key : ∀ (n : Nat) (x : Int), LeI (f_X3_slotsOf_L3 (VW β) a n x) (g_X3_slotsOf_L3 β a n x) := by
    intro n
    induction n with
    | zero => intro x; exact le_none
    | succ n ih =>
      intro x
      rw [f_X3_slotsOf_L3, g_X3_slotsOf_L3]
      refine le_ite (fun _ => le_rf) (fun _ => ?_)
      refine le_ldr fun h0 h1 => ?_
      rw [ck_t (a := a * 40 + x) (by omega), bs]
      refine le_atB (by omega) fun q e hq => ?_
      refine le_ite (fun _ => ?_) (fun _ => le_rf)
      refine le_ck2 fun _ => ?_
      exact ih _
  exact key _ _
theorem b_thingsOn {β : Blk} {a k : Int} : LeI (f_X3_thingsOn (VW β) a k) (g_X3_thingsOn β a k) := by
  unfold f_X3_thingsOn g_X3_thingsOn
  refine le_bindI b_slotsOf fun v => ?_
  have key : ∀ (n : Nat) (s x : Int), LeI (f_X3_thingsOn_L12 (VW β) a k v n s x) (g_X3_thingsOn_L12 β a k v n s x) := by
    intro n
    induction n with
    | zero => intro s x; exact le_none
    | succ n ih =>
      intro s x
      rw [f_X3_thingsOn_L12, g_X3_thingsOn_L12]
      refine le_ite (fun _ => le_rf) (fun _ => ?_)
      refine le_ldr fun h0 h1 => ?_
      rw [ck_t (a := a * 40 + x) (by omega), bs]
      refine le_atB (by omega) fun q e hq => ?_
      dsimp only [jp]
      refine le_ite (fun _ => ?_) (fun _ => ?_)
      · refine le_ck2 fun _ => ?_
        exact ih _ _
      · refine le_ck2 fun _ => ?_
        refine le_ck2 fun _ => ?_
        exact ih _ _
  exact key _ _ _
theorem b_inAll {β : Blk} {k : Int} : LeI (f_X3_thingsInAll (VW β) k) (g_X3_thingsInAll β k) := by
  have key : ∀ (n : Nat) (s x : Int), LeI (f_X3_thingsInAll_L4 (VW β) k n s x) (g_X3_thingsInAll_L4 β k n s x) := by
    intro n
    induction n with
    | zero => intro s x; exact le_none
    | succ n ih =>
      intro s x
      rw [f_X3_thingsInAll_L4, g_X3_thingsInAll_L4]
      refine le_ite (fun _ => le_rf) (fun _ => ?_)
      refine le_bindI b_thingsOn fun v => ?_
      refine le_ck2 fun _ => ?_
      refine le_ck2 fun _ => ?_
      exact ih _ _
  exact key _ _ _
theorem b_inUse {β : Blk} : LeI (f_X3_pagesInUse (VW β)) (g_X3_pagesInUse β) := by
  have key : ∀ (n : Nat) (s x : Int), LeI (f_X3_pagesInUse_L4 (VW β) n s x) (g_X3_pagesInUse_L4 β n s x) := by
    intro n
    induction n with
    | zero => intro s x; exact le_none
    | succ n ih =>
      intro s x
      rw [f_X3_pagesInUse_L4, g_X3_pagesInUse_L4]
      refine le_ite (fun _ => le_rf) (fun _ => ?_)
      refine le_ldB (by omega) fun q e hq => ?_
      dsimp only [jp]
      refine le_ite (fun _ => ?_) (fun _ => ?_)
      · refine le_ck2 fun _ => ?_
        exact ih _ _
      · refine le_ck2 fun _ => ?_
        refine le_ck2 fun _ => ?_
        exact ih _ _
  exact key _ _ _
theorem b_freeAll {β : Blk} : LeI (f_X3_freeInAll (VW β)) (g_X3_freeInAll β) := by
  have key : ∀ (n : Nat) (s x : Int), LeI (f_X3_freeInAll_L4 (VW β) n s x) (g_X3_freeInAll_L4 β n s x) := by
    intro n
    induction n with
    | zero => intro s x; exact le_none
    | succ n ih =>
      intro s x
      rw [f_X3_freeInAll_L4, g_X3_freeInAll_L4]
      refine le_ite (fun _ => le_rf) (fun _ => ?_)
      refine le_ldB (by omega) fun q e hq => ?_
      refine le_ck2 fun _ => ?_
      refine le_ck2 fun _ => ?_
      exact ih _ _
  exact key _ _ _
