/-! PURE: signs put on the pad, one by one *)  -/
theorem un_i2l {c : Nat} (hc : c < 256) : un (i2l (c : Int)) = c := by
  have e : i2l (c : Int) = lN c := by
    unfold i2l
    rw [show Int32.ofInt (c : Int) = nI c from Int32.ofInt_eq_ofNat, nI_l (by omega)]
  rw [e]
  show (BitVec.ofNat 64 c).toNat = c
  rw [BitVec.toNat_ofNat]
  omega
theorem ref_put {τ : Blk} {len c : Nat} (hl : τ 0 8 = (len : Int)) (h80 : len < 80) (hc : 33 ≤ c ∧ c ≤ 126) : f_X5_put τ (i2l (c : Int)) = some ((len : Int) + 1, up2 (up2 τ 7 len c) 0 8 ((len : Int) + 1)) := by
  have hu := un_i2l (c := c) (by omega)
  have s0 : sg (i2l (c : Int)) 0 = c := by
    unfold sg
    rw [hu]
    omega
  have s1 : sg (i2l (c : Int)) 1 = 0 := by
    unfold sg
    rw [hu]
    omega
  obtain ⟨y, f, y1, y2, y3, y4⟩ := put_scanM (a := i2l (c : Int)) (m := 1) (by omega) (fun x hx => by
    have e : x = 0 := by omega
    rw [e, s0]
    omega) (Or.inr s1)
  have f1 : f = 1 := y4.mpr (fun x hx => by
    have e : x = 0 := by omega
    unfold gs
    rw [e, s0]
    omega)
  have hm : l2i (lushr (i2l (c : Int)) (8 * ((0 : Nat) : Int)) &&& 255) = c := by
    rw [l2i_255, un_ushr (by omega), hu]
    omega
  obtain ⟨m, hm2⟩ : ∃ m, fu = m + 2 := ⟨fu - 2, by have := fu_lt (k := 1) (by omega); omega⟩
  unfold f_X5_put
  rw [jp_t, y1, if_neg (by omega), if_neg (by omega), if_pos (lcmp_0.mpr (by rw [y2, hu]; omega)), hl, ck_t (by omega), bs, if_pos (by omega), ck_t (by omega), bs, jp_t, hm2]
  have e0 : ((1 : Nat) : Int) - 1 = ((0 : Nat) : Int) := by omega
  rw [e0, f_X5_put_L105, if_neg (by omega), hm, hl, sw_t len rfl (by omega), bs, up2_ne (show (0 : Nat) ≠ 7 by omega), hl, ck_t (a := (len : Int) + 1) (by omega), bs, pf_t, ck_t (by omega), bs, f_X5_put_L105, if_pos (by omega), up2_s]
theorem st_put {σ T τ : Blk} {B : Nat → Blk} {nb len c : Nat} (h : INV σ B nb T τ) (hl : τ 0 8 = (len : Int)) (h80 : len < 80) (hc : 33 ≤ c ∧ c ≤ 126) : ∃ σ' B' nb', g_X4_put σ B nb (i2l (c : Int)) = some ((len : Int) + 1, σ', B', nb') ∧ INV σ' B' nb' T (up2 (up2 τ 7 len c) 0 8 ((len : Int) + 1)) := by
  obtain ⟨hR, hI⟩ := h
  obtain ⟨u, σ', B', nb', τ', s1, s2, s3⟩ := put_ok hR (i2l (c : Int))
  obtain ⟨B'', g1, g2⟩ := to_g b_put s1
  have e := Prod.mk.inj (Option.some.inj ((ref_put hl h80 hc).symm.trans s2))
  refine ⟨σ', B'', nb', by rw [g1, e.1], by rw [g2, e.2]; exact s3, ?_⟩
  rw [up2_ne (by omega), up2_ne (by omega)]
  exact hI
theorem st_wipe {σ T τ : Blk} {B : Nat → Blk} {nb : Nat} (h : INV σ B nb T τ) : ∃ v σ' B' nb', g_X4_wipe σ B nb = some (v, σ', B', nb') ∧ INV σ' B' nb' T (up2 τ 0 8 0) := by
  obtain ⟨hR, hI⟩ := h
  obtain ⟨u, σ', B', nb', τ', s1, s2, s3⟩ := wipe_ok hR
  obtain ⟨B'', g1, g2⟩ := to_g b_wipe s1
  have hf : f_X5_wipe τ = some (τ 0 8, up2 τ 0 8 0) := rfl
  have e := Prod.mk.inj (Option.some.inj (hf.symm.trans s2))
  refine ⟨u, σ', B'', nb', g1, by rw [g2, e.2]; exact s3, ?_⟩
  rw [up2_ne (by omega)]
  exact hI
