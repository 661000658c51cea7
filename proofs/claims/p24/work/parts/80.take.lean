/-! PURE: the trial taken; pack *)  -/
theorem RF.swap {σ σ' : Blk} {nb : Nat} (h : RF σ nb) (e1 : σ' 0 3 = σ 0 4) (e2 : σ' 0 4 = σ 0 3) (h7 : σ' 7 = σ 7) (h8 : σ' 8 = σ 8) : RF σ' nb := by
  have e : ∀ i, rf σ' i = rf σ (if i = 0 then 1 else if i = 1 then 0 else i) := by
    intro i
    by_cases i0 : i = 0
    · rw [if_pos i0, i0, rf0, rf1]; exact e1
    rw [if_neg i0]
    by_cases i1 : i = 1
    · rw [if_pos i1, i1, rf0, rf1]; exact e2
    rw [if_neg i1]
    unfold rf
    rw [if_neg i0, if_neg i1, if_neg i0, if_neg i1, h7, h8]
  obtain ⟨h0, h1, h2, h3, h4⟩ := h
  refine ⟨by rw [e]; exact h1, by rw [e]; exact h0, fun i hi => ?_, fun i j hi hj hne hp => ?_, ?_⟩
  · rw [e]
    apply h2
    split
    · omega
    · split <;> omega
  · rw [e] at hp ⊢
    rw [e j]
    refine h3 _ _ ?_ ?_ ?_ hp
    · split
      · omega
      · split <;> omega
    · split
      · omega
      · split <;> omega
    · split
      · split
        · omega
        · split <;> omega
      · split
        · split
          · omega
          · split <;> omega
        · split
          · omega
          · split <;> omega
  · rw [sumN_congr (f := fun i => if rf σ' i < 0 then 1 else 0) (g := fun i => if rf σ i < 0 then 1 else 0) (fun i hi => by
      show (if rf σ' i < 0 then (1 : Int) else 0) = if rf σ i < 0 then 1 else 0
      rw [e]
      by_cases i0 : i = 0
      · rw [if_pos i0, i0, if_neg (by omega), if_neg (by omega)]
      rw [if_neg i0]
      by_cases i1 : i = 1
      · rw [if_pos i1, i1, if_neg (by omega), if_neg (by omega)]
      rw [if_neg i1])]
    exact h4
theorem take_ok {σ τ : Blk} {B : Nat → Blk} {nb : Nat} (hF : RF σ nb) (hB : RB (B (σ 0 4).toNat) (τ 1)) (hH : HI σ B τ) (hS : SV σ B τ) (hP : PD σ τ) : ∃ σ', f_X4_takeTrial σ B nb = some (σ', B, nb) ∧ Rel σ' B nb τ ∧ σ' 0 3 = σ 0 4 := by
  obtain ⟨q, t, e1, e2, e3, e4, e5⟩ := hF.q
  refine ⟨up2 (up2 σ 0 3 t) 0 4 q, ?_, ⟨hF.swap (by rw [up2_n (by omega), up2_s, e2]) (by rw [up2_s, e1]) (by rw [up2_ne (by omega), up2_ne (by omega)]) (by rw [up2_ne (by omega), up2_ne (by omega)]), ?_, hH.congr (by rw [up2_ne (by omega), up2_ne (by omega)]) (fun i _ _ => ⟨by rw [up2_ne (by omega), up2_ne (by omega)], rfl⟩) rfl rfl, hS.congr (by rw [up2_ne (by omega), up2_ne (by omega)]) (fun _ _ _ => rfl) rfl rfl, hP.congr (by rw [up2_ne (by omega), up2_ne (by omega)]) (by rw [up2_ne (by omega), up2_ne (by omega)]) rfl rfl id⟩, by rw [up2_n (by omega), up2_s, e2]⟩
  · unfold f_X4_takeTrial
    rw [gk_t e1 e3, gk_t e2 e4, pf_t, pf_t]
  · rw [up2_n (by omega), up2_s, ← e2]
    exact hB
/-- the kept state is recorded, the trial taken -/
theorem rec_take {σ τ : Blk} {B : Nat → Blk} {nb : Nat} (hF : RF σ nb) (hB : RB (B (σ 0 4).toNat) (τ 1)) (hq : RB (B (σ 0 3).toNat) (τ 2)) (hH : HI σ B τ) (hS : SV σ B τ) (hP : PD σ τ) : ∃ σ1 B1 nb1 τ1 σ2, f_X1_record σ B nb (σ 0 3).toNat = some (σ1, B1, nb1) ∧ f_X5_record τ 2 763 = some τ1 ∧ f_X4_takeTrial σ1 B1 nb1 = some (σ2, B1, nb1) ∧ Rel σ2 B1 nb1 τ1 ∧ σ2 0 3 = σ 0 4 ∧ B1 (σ 0 4).toNat = B (σ 0 4).toNat ∧ τ1 1 = τ 1 ∧ ∀ j, j ≠ 4 → τ1 0 j = τ 0 j := by
  obtain ⟨σ1, B1, nb1, τ1, r1, r2, o1, o2, o3, o4, o5, o6, o7, o8⟩ := record_ok hF hH hS (c := 2) (Or.inr rfl) hq
  have e4 : σ1 0 4 = σ 0 4 := by rw [o4 0 (by omega) (by omega)]
  obtain ⟨σ2, w1, w2, w3⟩ := take_ok (τ := τ1) o1 (by rw [e4, o6, o7 1 (by omega) (by omega)]; exact hB) o2 o3 (hP.congr (o4 1 (by omega) (by omega)) (o4 2 (by omega) (by omega)) (o8 8 (by omega)) (o7 7 (by omega) (by omega)) (TL.of (o7 8 (by omega) (by omega))))
  exact ⟨σ1, B1, nb1, τ1, σ2, r1, r2, w1, w2, by rw [w3, e4], o6, o7 1 (by omega) (by omega), o8⟩
