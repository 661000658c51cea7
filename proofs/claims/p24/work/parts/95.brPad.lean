/-! BRIDGE: the pad; what is common to both is the same -/
abbrev LeE {α : Type} (f g : Option α) : Prop := Le (fun y x => y = x) f g
section LEP
variable {α γ : Type} {R : γ → α → Prop} {g : Option γ}
theorem le_at2 {σ : Blk} {c n : Nat} {i : Int} {K : Int → Option α} {K' : Int → Option γ} (h : ∀ q : Nat, i = (q : Int) → q < n → Le R (K (σ c q)) (K' (σ c q))) : Le R ((ld σ c n i).bind K) ((g_X4_at σ c n i).bind K') := le_ld fun q e hq => by
  rw [at_t q e hq]
  exact h q e hq
theorem le_st2 {σ : Blk} {c n : Nat} {i v : Int} {K : Blk → Option α} {K' : Blk → Option γ} (h : ∀ q : Nat, i = (q : Int) → q < n → Le R (K (up2 σ c q v)) (K' (up2 σ c q v))) : Le R ((sw σ c n i v).bind K) ((g_X4_store σ c n i v).bind K') := le_sw fun q e hq => by
  rw [st_t q e hq]
  exact h q e hq
theorem le_pf2 {σ : Blk} {c k : Nat} {v : Int} {K : Blk → Option α} {K' : Blk → Option γ} (h : Le R (K (up2 σ c k v)) (K' (up2 σ c k v))) : Le R (pf σ c k v K) (pf σ c k v K') := h
theorem le_bindE {δ : Type} {f f' : Option δ} {K : δ → Option α} {K' : δ → Option γ} (h : LeE f f') (k : ∀ v, Le R (K v) (K' v)) : Le R (f.bind K) (f'.bind K') := le_bind h fun x y e => by subst e; exact k _
theorem le_bd2E {f f' : Option (Int × Blk)} {K : Int → Blk → Option α} {K' : Int → Blk → Option γ} (h : LeE f f') (k : ∀ v β, Le R (K v β) (K' v β)) : Le R (bd2 f K) (bd2 f' K') := le_bind h fun x y e => by subst e; exact k _ _
end LEP
/-- any index may be looked at, what is behind it aside -/
theorem at_any {σ : Blk} {c n : Nat} {i : Int} : ∃ v, g_X4_at σ c n i = some v := by
  by_cases h : 0 ≤ i ∧ i < (n : Int)
  · exact ⟨_, at_t i.toNat (by omega) (by omega)⟩
  · exact ⟨_, at_o (by omega)⟩
theorem b_awaitKey {π : Blk} : LeE (f_X2_awaitKey π) (g_X2_awaitKey π) := le_rf
theorem b_inText {π : Blk} {a : Int} : LeE (f_X2_readInText π a) (g_X2_readInText π a) := by
  unfold f_X2_readInText g_X2_readInText
  refine le_ite (fun _ => ?_) (fun _ => ?_)
  · refine le_ck2 fun h0 => ?_
    obtain ⟨v, hv⟩ := at_any (σ := π) (c := 4) (n := 27) (i := π 0 2 - 1)
    rw [hv, bs]
    refine le_ite (fun _ => le_rf) (fun _ => ?_)
    refine le_ite (fun _ => le_rf) (fun _ => ?_)
    refine le_iteL (fun _ => le_none) (fun _ => ?_)
    refine le_ld fun q e hq => ?_
    rw [at_t q e hq] at hv
    cases hv
    refine le_ite (fun _ => ?_) (fun _ => le_rf)
    rw [ld_t q e hq, bs, ck_t h0, bs]
    refine le_ck2 fun _ => ?_
    refine le_st2 fun q2 e2 hq2 => ?_
    exact le_rf
  · exact le_bindE b_awaitKey fun _ => le_rf
theorem b_startText {π : Blk} {a : Int} : LeE (f_X2_startText π a) (g_X2_startText π a) := by
  unfold f_X2_startText g_X2_startText
  refine le_ite (fun _ => ?_) (fun _ => le_rf)
  refine le_st2 fun q1 e1 hq1 => ?_
  refine le_st2 fun q2 e2 hq2 => ?_
  refine le_st2 fun q3 e3 hq3 => ?_
  exact le_rf
theorem b_inKey {π : Blk} {x v : Int} : LeE (f_X2_readInKey π x v) (g_X2_readInKey π v x) := by
  unfold f_X2_readInKey g_X2_readInKey
  refine le_ite (fun _ => le_rf) (fun _ => ?_)
  refine le_ite (fun _ => le_rf) (fun _ => ?_)
  refine le_ck2 fun _ => ?_
  exact le_bd2E b_startText fun _ _ => le_rf
theorem b_readL {j j' : Blk → Option (Int × Blk)} (hj : ∀ π, LeE (j π) (j' π)) : ∀ (n : Nat) (x : Int) (π : Blk), LeE (f_X2_read_L11 j n x π) (g_X2_read_L11 j' n x π) := by
  intro n
  induction n with
  | zero => intro x π; exact le_none
  | succ n ih =>
    intro x π
    rw [f_X2_read_L11, g_X2_read_L11]
    refine le_ite (fun _ => hj π) (fun _ => ?_)
    have hk : ∀ (v : Int) (π2 : Blk), LeE (if v ≠ 0 then (ck (x + 1)).bind fun v10 => f_X2_read_L11 j n v10 π2 else some (x, π2)) (if v ≠ 0 then (ck (x + 1)).bind fun v11 => g_X2_read_L11 j' n v11 π2 else some (x, π2)) := by
      intro v π2
      refine le_ite (fun _ => ?_) (fun _ => le_rf)
      refine le_ck2 fun _ => ?_
      exact ih _ _
    rw [jp_t]
    by_cases h6 : π 0 6 = 0
    · rw [if_pos h6]
      refine le_at2 fun q e hq => ?_
      rw [jp_t, if_pos h6]
      exact le_bd2E b_inKey fun v π2 => hk v π2
    · rw [if_neg h6]
      refine le_at2 fun q e hq => ?_
      rw [jp_t, if_neg h6]
      exact le_bd2E b_inText fun v π2 => hk v π2
theorem b_read {π : Blk} : LeE (f_X2_read π) (g_X2_read π) := by
  unfold f_X2_read g_X2_read
  refine le_pf2 ?_
  refine le_bindE b_awaitKey fun π2 => ?_
  rw [jp_t, jp_t]
  exact b_readL (fun π => le_rf) _ _ _
