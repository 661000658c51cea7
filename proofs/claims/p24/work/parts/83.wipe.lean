/-! PURE: wipe *)  -/
theorem wipe_ok {σ τ : Blk} {B : Nat → Blk} {nb : Nat} (h : Rel σ B nb τ) : ∃ v σ' B' nb' τ', f_X4_wipe σ B nb = some (v, σ', B', nb') ∧ f_X5_wipe τ = some (v, τ') ∧ Rel σ' B' nb' τ' := by
  obtain ⟨hF, hR, hH, hS, p1, p2, p3, p4⟩ := h
  unfold f_X4_wipe f_X5_wipe
  rw [nm_t, nm_t, pf_t, pf_t, p1]
  refine ⟨_, _, _, _, _, rfl, rfl, hF.congr (up2_n (by omega)) (up2_n (by omega)) (up2_ne (by omega)) (up2_ne (by omega)), ?_, hH.congr (up2_ne (by omega)) (fun i _ _ => ⟨by rw [up2_ne (by omega)], rfl⟩) (up2_n (by omega)) (up2_ne (by omega)), hS.congr (up2_ne (by omega)) (fun _ _ _ => rfl) (up2_ne (by omega)) (up2_ne (by omega)), by rw [up2_s, up2_s], by rw [up2_s]; omega, fun j hj => ?_, TL.of (up2_ne (by omega)) p4⟩
  · rw [up2_n (by omega), up2_ne (by omega)]
    exact hR
  · rw [up2_s] at hj
    omega
