/-! PURE: the law's delete *)  -/
def delTail (r21 v20 : Int) (j28 : Blk → (Nat → Blk) → Nat → Blk → Option Int) (x99 : Int) (σ100 : Blk) (B101 : Nat → Blk) (N102 : Nat) (τ103 : Blk) : Option Int :=
    bd4 (g_X4_delete σ100 B101 N102 v20) fun r104 σ105 B106 N107 =>
    jp (fun (x109 : Int) =>
      if r104 = x109 then (
        jp (fun (σ111 : Blk) (B112 : Nat → Blk) (N113 : Nat) (τ114 : Blk) =>
          Option.bind (ld τ114 0 4 2) fun v115 =>
          jp (fun (x117 : Int) =>
            Option.bind (ck (v115 - x117)) fun v118 =>
            Option.bind (sw τ114 0 4 2 v118) fun τ119 =>
            j28 σ111 B112 N113 τ119) fun j116 =>
          if r21 < 0 then (
            j116 0) else (
            j116 1)) fun j110 =>
        if r21 < 0 then (
          j110 σ105 B106 N107 τ103) else (
          Option.bind (sw τ103 1 28 ((4 * r21) + 1) ((-1))) fun τ120 =>
          j110 σ105 B106 N107 τ120)) else (
        some 0)) fun j108 =>
    if 0 ≤ r21 then (
      j108 x99) else (
      j108 ((-1)))
def delStep (σ : Blk) (B : Nat → Blk) (nb : Nat) (T : Blk) (v20 r21 : Int) (j28 : Blk → (Nat → Blk) → Nat → Blk → Option Int) : Option Int :=
  Option.bind (ld T 0 4 3) fun v96 =>
  Option.bind (ck (v96 - 1)) fun v97 =>
  jp (delTail r21 v20 j28) fun j98 =>
  g_L_law_L653 r21 j98 fu 0 v97 σ B nb T
theorem INVc.del {T T2 : Blk} {s s' : Nat → Int} {r n' : Nat} (h : INVc T s) (hr : r < 6) (hT : TT T2 0 2 (clr s r) n') (hc : ∀ c, c ≠ 0 → c ≠ 2 → c ≠ 1 → T2 c = T c) (h1 : ∀ j, j ≠ 4 * r + 1 → T2 1 j = T 1 j) (h1r : T2 1 (4 * r + 1) = -1) (h0 : T2 0 0 = T 0 0 ∧ T2 0 1 = T 0 1 ∧ T2 0 2 = T 0 2 - 1) (z : ∀ z, z < 400 → s' (363 + z) = clr s r (363 + z)) (p : ∀ y k, y < 30 → k < 12 → pt s' y k = if y = r then 0 else pt s y k) (p0 : s' 0 = s 0) (p1 : s' 1 = s 1) (p2 : s' 2 = s 2 - 1) : INVc T2 s' := by
  obtain ⟨-, a2, ⟨c0, c1, c2⟩, a4, a5, a6⟩ := h
  refine ⟨⟨n', hT.congr rfl (fun _ _ => rfl) z⟩, ⟨fun x hx => ?_, fun x x1 x2 => ?_⟩, ⟨by rw [h0.1, p0]; exact c0, by rw [h0.2.1, p1]; exact c1, by rw [h0.2.2, p2, c2]⟩, fun x hx hi => ?_, fun x hx => ?_, by rw [p1]; exact a6⟩
  · by_cases e : x = r
    · subst e
      exact Or.inr ⟨by rw [p x 0 (by omega) (by omega), if_pos rfl], h1r⟩
    · rw [p x 0 (by omega) (by omega), p x 1 (by omega) (by omega), p x 2 (by omega) (by omega), p x 3 (by omega) (by omega), p x 4 (by omega) (by omega), if_neg e, if_neg e, if_neg e, if_neg e, if_neg e, h1 _ (by omega), h1 _ (by omega), h1 _ (by omega), h1 _ (by omega)]
      exact a2.1 x hx
  · rw [p x 0 x2 (by omega), if_neg (by omega)]
    exact a2.2 x x1 x2
  · by_cases e : x = r
    · rw [p x 0 (by omega) (by omega), if_pos e] at hi
      omega
    · rw [p x 0 (by omega) (by omega), if_neg e] at hi
      have hl := (a2.live (by omega) hi).2.2.2.1
      rw [p x 2 (by omega) (by omega), if_neg e]
      exact (a4 x hx hi).congr (fun j _ => LV_congr (hc 6 (by omega) (by omega) (by omega))) (fun k hk => lt_c (fun m hm => by rw [p x _ (by omega) (by omega), if_neg e]) (by omega))
  · rw [Wg_congr z, Wg_congr z, Wg_clr cl_0, Wg_clr one_0]
    have := a5 x hx
    split <;> omega
theorem st_delete {σ T τ : Blk} {B : Nat → Blk} {nb q : Nat} (h : INV σ B nb T τ) (hq : σ 0 3 = q) {a : Int} (j28 : Blk → (Nat → Blk) → Nat → Blk → Option Int) : ∃ σ' B' nb' T' τ', delStep σ B nb T a (rk (vb B q) a) j28 = j28 σ' B' nb' T' ∧ INV σ' B' nb' T' τ' := by
  obtain ⟨hR, hI⟩ := id h
  have hB := hR.2.1
  rw [hq, Int.toNat_natCast] at hB
  have hRW := hB.1.2.1
  obtain ⟨⟨n, hT⟩, hL, ⟨c0, c1, c2⟩, -⟩ := id hI
  have hn64 := hT.1.2
  have hs2 := hRW.s2
  obtain ⟨w, σ', B', nb', τ', s1, s2, s3⟩ := delete_ok hR a
  obtain ⟨B'', g1, g2⟩ := to_g b_delete s1
  have hdel : f_X5_delete τ a = Option.bind (f_X5_rowWith τ a) fun r1 => if r1 ≠ (-6) then Option.bind (f_X5_record τ 1 763) fun σ2 => delR σ2 r1 else some ((-1), τ) := rfl
  unfold delStep
  rw [ld_t 3 (by omega) (by omega), bs, hT.1.1, ck_t (by omega), bs, jp_t]
  rcases hRW.key a with hk | ⟨r, hr, hk, hi, hka, -⟩
  · rw [hk]
    rw [x5_rowWith hRW, hk, if_pos rfl, bs, if_neg (by decide)] at hdel
    rw [hdel] at s2
    injection s2 with s2
    injection s2 with s2a s2b
    have hl : ∀ j : Int → Blk → (Nat → Blk) → Nat → Blk → Option Int, g_L_law_L653 (-1) j fu 0 ((n : Int) - 1) σ B nb T = j 0 σ B nb T := fun j => by
      obtain ⟨m, hm⟩ : ∃ m, fu = m + 1 := ⟨fu - 1, by have := fu_lt (k := 0) (by omega); omega⟩
      rw [hm, g_L_law_L653]
      split
      · rfl
      · rw [if_pos (by decide)]
    rw [hl]
    unfold delTail
    rw [g1, bd4_t, jp_t, if_neg (by decide)]
    dsimp only
    rw [if_pos s2a.symm, jp_t, if_pos (by decide)]
    dsimp only
    rw [ld_t 2 (by omega) (by omega), bs, jp_t, if_pos (by decide)]
    dsimp only
    rw [ck_t (by omega), bs, sw_t 2 (by omega) (by omega), bs]
    refine ⟨_, _, _, _, τ', rfl, by rw [g2]; exact s3, ?_⟩
    rw [← s2b]
    exact hI.sc (fun _ _ _ => rfl) (fun c hc => up2_ne hc) (up2_n (by omega)) ⟨by rw [up2_n (by omega)]; exact c0, by rw [up2_n (by omega)]; exact c1, by rw [up2_s]; omega⟩ hI.2.2.2.2.2
  · obtain ⟨l6, l0, l1, l2, l3, l4⟩ := hL.live hr hi
    obtain ⟨τ1, r1, r2, r3, -⟩ := x5_record (τ := τ) (c := 1) (Or.inl rfl) hR.2.2.1.2.1
    have e1 : τ1 1 = τ 1 := r2 1 (by omega) (by omega)
    obtain ⟨τ2, d1, d2, d3, d4, d5, d6⟩ := del_ref (β := vb B q) (τ := τ1) (by rw [e1]; exact hB) hr (by rw [e1]; exact hi)
    rw [e1] at d1 d2 d3 d4 d5 d6
    rw [x5_rowWith hRW, hk, if_neg (show ¬ (r : Int) = -1 by omega), bs, if_pos (show (r : Int) ≠ -6 by omega), r1, bs, d1] at hdel
    rw [hdel] at s2
    injection s2 with s2
    injection s2 with s2a s2b
    obtain ⟨n', T', w1, w2, w3, w4⟩ := law_dels (σ := σ) (B := B) (nb := nb) (tot := Wg cl (τ 1) r) l6 (by have := (hI.2.2.2.2.1 r l6).1; omega) (delTail (r : Int) a j28) n fu n 0 T (τ 1) (Nat.le_refl _) (fu_lt (by omega)) hT hB.1.2.2.1.1 (by omega) (fun i i1 i2 => by omega) (by omega)
    rw [hk, w1]
    unfold delTail
    rw [g1, bd4_t, jp_t, if_pos (by omega)]
    dsimp only
    rw [if_pos s2a.symm, jp_t, if_neg (by omega), sw_t (4 * r + 1) (by omega) (by omega), bs]
    dsimp only
    have e02 : up2 T' 1 (4 * r + 1) (-1) 0 2 = T 0 2 := by rw [up2_ne (by omega), w4 2 (by omega)]
    rw [ld_t 2 (by omega) (by omega), bs, e02, jp_t, if_neg (by omega)]
    dsimp only
    rw [ck_t (by omega), bs, sw_t 2 (by omega) (by omega), bs]
    refine ⟨_, _, _, _, τ', rfl, by rw [g2]; exact s3, ?_⟩
    rw [← s2b]
    refine hI.del (r := r) (n' := n') l6 (w2.congr (by rw [up2_n (by omega), up2_ne (by omega)]) (fun k _ => by rw [up2_ne (by omega), up2_ne (by omega)]) (fun _ _ => rfl)) (fun c h0 h2 h1 => by rw [up2_ne h0, up2_ne h1]; exact w3 c h0 h2) (fun j hj => by rw [up2_ne (by omega), up2_n (by omega), w3 1 (by omega) (by omega)]) (by rw [up2_ne (by omega), up2_s]) ⟨by rw [up2_n (by omega), up2_ne (by omega), w4 0 (by omega)], by rw [up2_n (by omega), up2_ne (by omega), w4 1 (by omega)], up2_s⟩ d2 d3 d4 d5 d6
