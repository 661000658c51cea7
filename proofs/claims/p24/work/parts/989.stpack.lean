/-! PURE: the law's pack step *)  -/
theorem PKL.inv {β : Blk} {s0 : Nat → Int} {n : Nat} {T0 T τ : Blk} (hC : PC β s0) (h : PKL 0 2 1 s0 100 n T τ) (h6 : T 6 = T0 6) (hLE : ∀ x, x < 6 → pt s0 x 0 = 1 → LEx T0 x (lt s0 x) (pt s0 x 2).toNat) : INVc T (τ 1) := by
  obtain ⟨h1, -, h3, ⟨c0, c1, c2⟩, h5, -, h7, h8, h9⟩ := h
  refine ⟨⟨n, h1⟩, ⟨fun y hy => ?_, fun y y1 y2 => ?_⟩, ⟨by rw [c0, h7 0 (by omega)], by rw [c1, h7 1 (by omega)], by rw [c2, h7 2 (by omega)]⟩, fun y hy hi => ?_, fun y _ => h5 y, by rw [h7 1 (by omega)]; exact hC.2.2.2.1⟩
  · rw [h8 y 0 (by omega) (by omega), h8 y 1 (by omega) (by omega), h8 y 2 (by omega) (by omega)]
    rcases h3 y hy with ⟨a1, a2, a3, a4⟩ | z
    · have hk := hC.1.of (show y < 30 by omega) a1
      obtain ⟨a5, a6⟩ := a4 (by omega)
      exact Or.inl ⟨a1, a2, a3, (hC.2.1 y (by omega) a1).2, a5, a6⟩
    · exact Or.inr z
  · rw [h8 y 0 y2 (by omega)]
    have h3 := hC.1.is y2
    have h4 := hC.2.1 y y2
    omega
  · rw [h8 y 0 (by omega) (by omega)] at hi
    rw [h8 y 2 (by omega) (by omega)]
    exact (hLE y hy hi).congr (fun j _ => LV_congr h6) (fun k hk => (h9 y (by omega) hi).2 k (by omega))
theorem law_pages0 {T : Blk} {s : Nat → Int} {n : Nat} (h : TT T 0 2 s n) (hT : TK s) (j : Int → Option Int) : g_L_law_L798 T j fu 0 0 = j (sumN (fun p => if (slT s p : Int) ≤ 0 then 0 else 1) 10) := by
  refine loopUp (F := fun m x => g_L_law_L798 T j m (sumN (fun p => if (slT s p : Int) ≤ 0 then 0 else 1) x) (x : Int)) 10 (fun m x hx => ?_) (fun m => ?_) fu 0 (by omega) (fu_lt (by omega))
  · show g_L_law_L798 T j (m + 1) (sumN (fun p => if (slT s p : Int) ≤ 0 then 0 else 1) x) (x : Int) = g_L_law_L798 T j m (sumN (fun p => if (slT s p : Int) ≤ 0 then 0 else 1) x + (if (slT s x : Int) ≤ 0 then 0 else 1)) ((x + 1 : Nat) : Int)
    have hb : 0 ≤ sumN (fun p => if (slT s p : Int) ≤ 0 then (0 : Int) else 1) x ∧ sumN (fun p => if (slT s p : Int) ≤ 0 then (0 : Int) else 1) x ≤ x * 1 := ⟨sumN_nonneg (fun i hi => by split <;> omega), sumN_le (fun i hi => by split <;> omega)⟩
    have hf := fr_full hT hx
    rw [g_L_law_L798, if_neg (by omega), ld_t 3 (by omega) (by omega), bs, h.1.1, l_free h hT hx, bs, jp_t]
    by_cases e : 40 ≤ fr s x
    · rw [if_pos e, if_pos (hf.mp e)]
      dsimp only
      rw [ck_t (by omega), bs, ck_t (by omega), bs]
      rfl
    · rw [if_neg e, if_neg (fun z => e (hf.mpr z))]
      dsimp only
      rw [ck_t (by omega), bs, ck_t (by omega), bs]
      rfl
  · show g_L_law_L798 T j (m + 1) (sumN (fun p => if (slT s p : Int) ≤ 0 then 0 else 1) 10) ((10 : Nat) : Int) = _
    rw [g_L_law_L798, if_pos (by omega)]
theorem law_pages3 {T : Blk} {s : Nat → Int} {n : Nat} (h : TT T 3 5 s n) (hT : TK s) (j : Int → Option (Int × Dp)) : g_L_would_L90 T j fu 0 0 = j (sumN (fun p => if (slT s p : Int) ≤ 0 then 0 else 1) 10) := by
  refine loopUp (F := fun m x => g_L_would_L90 T j m (sumN (fun p => if (slT s p : Int) ≤ 0 then 0 else 1) x) (x : Int)) 10 (fun m x hx => ?_) (fun m => ?_) fu 0 (by omega) (fu_lt (by omega))
  · show g_L_would_L90 T j (m + 1) (sumN (fun p => if (slT s p : Int) ≤ 0 then 0 else 1) x) (x : Int) = g_L_would_L90 T j m (sumN (fun p => if (slT s p : Int) ≤ 0 then 0 else 1) x + (if (slT s x : Int) ≤ 0 then 0 else 1)) ((x + 1 : Nat) : Int)
    have hb : 0 ≤ sumN (fun p => if (slT s p : Int) ≤ 0 then (0 : Int) else 1) x ∧ sumN (fun p => if (slT s p : Int) ≤ 0 then (0 : Int) else 1) x ≤ x * 1 := ⟨sumN_nonneg (fun i hi => by split <;> omega), sumN_le (fun i hi => by split <;> omega)⟩
    have hf := fr_full hT hx
    rw [g_L_would_L90, if_neg (by omega), ld_t 3 (by omega) (by omega), bs, h.1.1, l_free h hT hx, bs, jp_t]
    by_cases e : 40 ≤ fr s x
    · rw [if_pos e, if_pos (hf.mp e)]
      dsimp only
      rw [ck_t (by omega), bs, ck_t (by omega), bs]
      rfl
    · rw [if_neg e, if_neg (fun z => e (hf.mpr z))]
      dsimp only
      rw [ck_t (by omega), bs, ck_t (by omega), bs]
      rfl
  · show g_L_would_L90 T j (m + 1) (sumN (fun p => if (slT s p : Int) ≤ 0 then 0 else 1) 10) ((10 : Nat) : Int) = _
    rw [g_L_would_L90, if_pos (by omega)]
theorem INVc.pc {β : Blk} {T : Blk} {s : Nat → Int} (h : INVc T s) (hB : RB β s) : PC β s := ⟨hB.1.2.1, fun y hy hi => ⟨(h.2.1.live hy hi).1, (h.2.1.live hy hi).2.2.2.1⟩, hB.1.1.1.2, ⟨h.2.2.2.2.2, hB.1.1.2.1.2.2⟩⟩
def packStep (σ : Blk) (B : Nat → Blk) (nb : Nat) (T : Blk) (j28 : Blk → (Nat → Blk) → Nat → Blk → Option Int) : Option Int :=
  bd2 (g_L_pack T 0 4 1 28 2 64) fun r80 τ79 =>
  if r80 ≠ 0 then (
    jp (fun (x82 : Int) =>
      bd4 (g_X4_pack σ B nb) fun r83 σ84 B85 N86 =>
      if r83 = x82 then (
        j28 σ84 B85 N86 τ79) else (
        some 0)) fun j81 =>
    g_L_law_L798 τ79 j81 fu 0 0) else (
    some 0)
theorem st_pack {σ T τ : Blk} {B : Nat → Blk} {nb q : Nat} (h : INV σ B nb T τ) (hq : σ 0 3 = q) (j28 : Blk → (Nat → Blk) → Nat → Blk → Option Int) : ∃ σ' B' nb' T' τ', packStep σ B nb T j28 = j28 σ' B' nb' T' ∧ INV σ' B' nb' T' τ' := by
  obtain ⟨hR, hI⟩ := id h
  have hB := hR.2.1
  rw [hq, Int.toNat_natCast] at hB
  have hC := hI.pc hB
  obtain ⟨τ1, m1, m2, m3, -⟩ := x5_moves (σ := τ) (i1 := 1) (n1 := 763) (i3 := 2) (n3 := 763) (a2 := 0) (a4 := 0) 0 0 (by omega) (by omega) (by omega) (by omega) (by omega)
  have e1 : τ1 1 = τ 1 := m2 1 (by omega)
  obtain ⟨n', T', τ2, w1, w2, w3, w4, w5, w6⟩ := law_packs (q := 0) (t := 2) (ir := 1) (T := T) (τ := τ1) (by omega) (by omega) (by omega) hC (fun j _ => by rw [e1]) (fun y hy => by
    rcases hI.2.1.1 y hy with ⟨a1, a2, a3, -⟩ | z
    · exact Or.inl ⟨a1, a2, a3⟩
    · exact Or.inr z) hI.2.2.1 (fun y hy hi => (hB.1.2.2.2.2.1 y hy hi).2.2.1)
  obtain ⟨τ3, r1, r2, r3, -⟩ := x5_record (τ := τ2) (c := 2) (Or.inr rfl) (by rw [w6 4 (by omega) (by omega), m2 0 (by omega)]; exact hR.2.2.1.2.1)
  have e3 : τ3 1 = τ2 1 := r2 1 (by omega) (by omega)
  obtain ⟨w, σ', B', nb', τ', s1, s2, s3⟩ := pack_ok hR
  obtain ⟨B'', g1, g2⟩ := to_g b_pack s1
  have hf : f_X5_pack τ = some (sumN (fun p => if (slT (τ2 1) p : Int) ≤ 0 then 0 else 1) 10, τ3) := by
    unfold f_X5_pack
    rw [m1, bs, w2, bd2_t, if_pos (show (1 : Int) ≠ 0 by decide), r1, bs, x5_pagesWith, bs, e3]
  rw [hf] at s2
  injection s2 with s2
  injection s2 with s2a s2b
  unfold packStep
  rw [w1, bd2_t, if_pos (show (1 : Int) ≠ 0 by decide), jp_t, law_pages0 w3.1 w3.2.1]
  rw [g1, bd4_t, if_pos s2a.symm]
  refine ⟨_, _, _, _, τ', rfl, by rw [g2]; exact s3, ?_⟩
  rw [← s2b, e3]
  exact w3.inv hC (w4 6 (by omega) (by omega) (by omega)) hI.2.2.2.1
