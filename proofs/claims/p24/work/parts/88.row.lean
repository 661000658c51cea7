/-! PURE: a row of the pad written, on both sides *)  -/
theorem pad_text {σ : Blk} {B : Nat → Blk} {nb t L T r : Nat} (ht : t < nb) (hr : r < 30) (hT : T + L ≤ 80) (hL40 : L ≤ 40) (hB : B t 8 r = (L : Int)) (hc : ∀ x, x < L → 97 ≤ σ 2 (T + x) ∧ σ 2 (T + x) ≤ 122) : ∃ B' : Nat → Blk, (∀ j9, f_X4_writePadRow_L49 t (r : Int) (T : Int) j9 fu 0 σ B nb = j9 σ B' nb) ∧ (∀ k, k ≠ t → B' k = B k) ∧ (∀ c, c ≠ 44 + r → B' t c = B t c) ∧ ∀ x, x < L → B' t (44 + r) x = σ 2 (T + x) - 97 := by
  have key := loopSt (F := fun n (x : Nat) (s : Nat → Blk) => fun j9 : Blk → (Nat → Blk) → Nat → Option (Int × Up) => f_X4_writePadRow_L49 t (r : Int) (T : Int) j9 n (x : Int) σ s nb) (P := fun x s => (∀ k, k ≠ t → s k = B k) ∧ (∀ c, c ≠ 44 + r → s t c = B t c) ∧ ∀ y, y < x → s t (44 + r) y = σ 2 (T + y) - 97) (Q := fun o => ∃ B' : Nat → Blk, (∀ j9, o j9 = j9 σ B' nb) ∧ (∀ k, k ≠ t → B' k = B k) ∧ (∀ c, c ≠ 44 + r → B' t c = B t c) ∧ ∀ x, x < L → B' t (44 + r) x = σ 2 (T + x) - 97) L (fun n x s hx hp => ?_) (fun n s hp => ?_) fu 0 B (by omega) (fu_lt (by omega)) ⟨fun _ _ => rfl, fun _ _ => rfl, fun y hy => absurd hy (Nat.not_lt_zero y)⟩
  · exact key
  · obtain ⟨p1, p2, p3⟩ := hp
    have hcx := hc x hx
    have e8 : s t 8 r = (L : Int) := by rw [p2 8 (by omega)]; exact hB
    refine ⟨ub s t (up2 (s t) (44 + r) x (σ 2 (T + x) - 97)), funext fun j9 => ?_, fun k hk => ?_, fun c hc => ?_, fun y hy => ?_⟩
    · show f_X4_writePadRow_L49 t (r : Int) (T : Int) j9 (n + 1) (x : Int) σ s nb = f_X4_writePadRow_L49 t (r : Int) (T : Int) j9 n ((x + 1 : Nat) : Int) σ _ nb
      rw [f_X4_writePadRow_L49, lk_t ht, ld_t r rfl hr, bs, e8, if_neg (by omega), gd_t (by omega) (by omega), ck_t (a := (T : Int) + (x : Int)) (by omega), bs, ld_t (T + x) (by omega) (by omega), bs, ck_t (a := σ 2 (T + x) - 97) (by omega), bs, Int.toNat_natCast, bw_t x rfl (by omega), ck_t (a := (x : Int) + 1) (by omega), bs]
      rfl
    · rw [ub_n hk]
      exact p1 k hk
    · rw [ub_s, up2_ne hc]
      exact p2 c hc
    · rw [ub_s]
      by_cases e : y = x
      · rw [e, up2_s]
      · rw [up2_n (by omega)]
        exact p3 y (by omega)
  · obtain ⟨p1, p2, p3⟩ := hp
    have e8 : s t 8 r = (L : Int) := by rw [p2 8 (by omega)]; exact hB
    refine ⟨s, fun j9 => ?_, p1, p2, p3⟩
    show f_X4_writePadRow_L49 t (r : Int) (T : Int) j9 (n + 1) (L : Int) σ s nb = _
    rw [f_X4_writePadRow_L49, lk_t ht, ld_t r rfl hr, bs, e8, if_pos (by omega)]
theorem key_loop {τ : Blk} {s d : Nat} (h61 : τ 7 (s + d) = 61) (hn : ∀ n, n < d → τ 7 (s + n) ≠ 61) (hv : ∀ n, n ≤ d → 0 ≤ kv (τ 7) s n ∧ kv (τ 7) s n < 100) (h80 : s + d < 80) (j : Int → Int → Option (Int × Blk)) : f_X5_write_L41 τ j fu (s : Int) 0 = j ((s + d : Nat) : Int) (kv (τ 7) s d) := by
  refine loopUp (F := fun n x => f_X5_write_L41 τ j n ((s + x : Nat) : Int) (kv (τ 7) s x)) d (fun n x hx => ?_) (fun n => ?_) fu 0 (by omega) (fu_lt (by omega))
  · have e1 : kv (τ 7) s (x + 1) = kv (τ 7) s x * 10 + τ 7 (s + x) - 48 := rfl
    have e2 : 10 * kv (τ 7) s x + τ 7 (s + x) - 48 = kv (τ 7) s (x + 1) := by omega
    have h1 := hv (x + 1) (by omega)
    have e3 : ((s + x : Nat) : Int) + 1 = ((s + (x + 1) : Nat) : Int) := by omega
    show f_X5_write_L41 τ j (n + 1) ((s + x : Nat) : Int) (kv (τ 7) s x) = f_X5_write_L41 τ j n ((s + (x + 1) : Nat) : Int) (kv (τ 7) s (x + 1))
    rw [f_X5_write_L41, ld_t (s + x) rfl (by omega), bs, if_neg (hn x hx), bs, e2, ck_t (a := kv (τ 7) s (x + 1)) (by omega), bs, e3, ck_t (by omega), bs]
  · show f_X5_write_L41 τ j (n + 1) ((s + d : Nat) : Int) (kv (τ 7) s d) = _
    rw [f_X5_write_L41, ld_t (s + d) rfl (by omega), bs, if_pos h61]
theorem let_loop {τ : Blk} {len T L : Nat} (h8 : τ 0 8 = (len : Int)) (h10 : τ 0 10 = 0) (hTL : T + L ≤ len) (h80 : len ≤ 80) (hL : L ≤ 40) (hc : ∀ x, x < L → 97 ≤ τ 7 (T + x) ∧ τ 7 (T + x) ≤ 122) (he : T + L = len ∨ τ 7 (T + L) = 59) : ∃ u, (∀ j, f_X5_write_L83 j fu (T : Int) τ = j ((T + L : Nat) : Int) u) ∧ (∀ c, c ≠ 0 → c ≠ 8 → u c = τ c) ∧ (∀ i, i ≠ 10 → u 0 i = τ 0 i) ∧ u 0 10 = (L : Int) ∧ (∀ x, x < L → u 8 x = τ 7 (T + x) - 97) ∧ ∀ x, L ≤ x → u 8 x = τ 8 x := by
  have key := loopSt (F := fun n (x : Nat) (s : Blk) => fun j : Int → Blk → Option (Int × Blk) => f_X5_write_L83 j n ((T + x : Nat) : Int) s) (P := fun x s => (∀ c, c ≠ 0 → c ≠ 8 → s c = τ c) ∧ (∀ i, i ≠ 10 → s 0 i = τ 0 i) ∧ s 0 10 = (x : Int) ∧ (∀ y, y < x → s 8 y = τ 7 (T + y) - 97) ∧ ∀ y, x ≤ y → s 8 y = τ 8 y) (Q := fun o => ∃ u, (∀ j, o j = j ((T + L : Nat) : Int) u) ∧ (∀ c, c ≠ 0 → c ≠ 8 → u c = τ c) ∧ (∀ i, i ≠ 10 → u 0 i = τ 0 i) ∧ u 0 10 = (L : Int) ∧ (∀ x, x < L → u 8 x = τ 7 (T + x) - 97) ∧ ∀ x, L ≤ x → u 8 x = τ 8 x) L (fun n x s hx hp => ?_) (fun n s hp => ?_) fu 0 τ (by omega) (fu_lt (by omega)) ⟨fun _ _ _ => rfl, fun _ _ => rfl, h10, fun y hy => absurd hy (Nat.not_lt_zero y), fun _ _ => rfl⟩
  · exact key
  · obtain ⟨p1, p2, p3, p4, p5⟩ := hp
    have hcx := hc x hx
    have e8 : s 0 8 = len := by rw [p2 8 (by omega)]; exact h8
    have e7 : s 7 = τ 7 := p1 7 (by omega) (by omega)
    refine ⟨up2 (up2 s 8 x (τ 7 (T + x) - 97)) 0 10 ((x : Int) + 1), funext fun j => ?_, fun c c0 c8 => ?_, fun i hi => ?_, ?_, fun y hy => ?_, fun y hy => ?_⟩
    · show f_X5_write_L83 j (n + 1) ((T + x : Nat) : Int) s = f_X5_write_L83 j n ((T + (x + 1) : Nat) : Int) _
      rw [f_X5_write_L83, e8, if_neg (by omega), ld_t (T + x) rfl (by omega), bs, e7, if_neg (show ¬ τ 7 (T + x) = 59 by omega), bs, ck_t (a := τ 7 (T + x) - 97) (by omega), bs, p3, sw_t x rfl (by omega), bs, up2_ne (show (0 : Nat) ≠ 8 by omega), p3, ck_t (a := (x : Int) + 1) (by omega), bs, pf_t, ck_t (by omega), bs]
      rfl
    · rw [up2_ne c0, up2_ne c8]
      exact p1 c c0 c8
    · rw [up2_n (by omega), up2_ne (by omega)]
      exact p2 i hi
    · rw [up2_s]
      omega
    · rw [up2_ne (show (8 : Nat) ≠ 0 by omega)]
      by_cases e : y = x
      · rw [e, up2_s]
      · rw [up2_n (by omega)]
        exact p4 y (by omega)
    · rw [up2_ne (show (8 : Nat) ≠ 0 by omega), up2_n (by omega)]
      exact p5 y (by omega)
  · obtain ⟨p1, p2, p3, p4, p5⟩ := hp
    have e8 : s 0 8 = len := by rw [p2 8 (by omega)]; exact h8
    have e7 : s 7 = τ 7 := p1 7 (by omega) (by omega)
    refine ⟨s, fun j => ?_, p1, p2, p3, p4, p5⟩
    show f_X5_write_L83 j (n + 1) ((T + L : Nat) : Int) s = _
    by_cases e : T + L = len
    · rw [f_X5_write_L83, e8, if_pos (by omega)]
    · rw [f_X5_write_L83, e8, if_neg (by omega), ld_t (T + L) rfl (by omega), bs, e7, if_pos (he.resolve_left e)]
theorem take_c {σ σ' : Blk} {B : Nat → Blk} {nb : Nat} (hF : RF σ nb) (h : f_X4_takeTrial σ B nb = some (σ', B, nb)) : ∀ c, c ≠ 0 → σ' c = σ c := by
  obtain ⟨q, t, e1, e2, e3, e4, e5⟩ := hF.q
  unfold f_X4_takeTrial at h
  rw [gk_t e1 e3, gk_t e2 e4, pf_t, pf_t] at h
  have h1 : up2 (up2 σ 0 3 t) 0 4 q = σ' := congrArg Prod.fst (Option.some.inj h)
  intro c hc
  rw [← h1, up2_ne hc, up2_ne hc]
theorem write_row {σ τ : Blk} {B : Nat → Blk} {nb len i : Nat} (h : Rel σ B nb τ) (hlen : τ 0 8 = (len : Int)) (hi : i < 27) (hP : PR (τ 7) len (opad σ) i) (he : EN (τ 7) (opad σ) i ∨ (opad σ 3 i).toNat + (opad σ 4 i).toNat = len) : ∃ (r : Int) (σ' : Blk) (B' : Nat → Blk) (nb' : Nat) (τ' : Blk), (r = 0 ∨ r = 1) ∧ f_X4_writePadRow σ B nb (i : Int) = some (r, σ', B', nb') ∧ (∀ (j3 : Int → Blk → Option (Int × Blk)) (n y : Nat), y < 40 → f_X5_write_L26 j3 (n + 1) (y : Int) ((stp (opad σ) i : Nat) : Int) 1 τ = f_X5_write_L26 j3 n ((y : Int) + r) ((stp (opad σ) (i + 1) : Nat) : Int) r τ') ∧ Rel σ' B' nb' τ' ∧ (∀ c, c ≠ 0 → σ' c = σ c) ∧ τ' 7 = τ 7 ∧ τ' 0 8 = τ 0 8 := by
  obtain ⟨d, d1, d2, d3, d4, d5, d6, d7, d8, d9⟩ := hP
  have es : stp (opad σ) (i + 1) = (opad σ 3 i).toNat + (opad σ 4 i).toNat + 1 := rfl
  rw [es]
  generalize hs : stp (opad σ) i = s at *
  have hT : σ 4 i = ((s + d + 1 : Nat) : Int) := d2
  have hK : σ 3 i = kv (τ 7) s d := d6
  have d7' : 0 ≤ σ 5 i ∧ σ 5 i ≤ 40 := d7
  obtain ⟨L, hL⟩ : ∃ L : Nat, σ 5 i = L := ⟨(σ 5 i).toNat, by omega⟩
  have o3 : opad σ 3 i = ((s + d + 1 : Nat) : Int) := d2
  have o4 : opad σ 4 i = (L : Int) := hL
  have he' : s + d + 1 + L = len ∨ τ 7 (s + d + 1 + L) = 59 := by
    rcases he with he | he
    · unfold EN at he
      rw [o3, o4, Int.toNat_natCast, Int.toNat_natCast] at he
      exact Or.inr he
    · rw [o3, o4, Int.toNat_natCast, Int.toNat_natCast] at he
      exact Or.inl he
  rw [o4] at d8 d9
  rw [Int.toNat_natCast] at d9
  rw [o3, o4, Int.toNat_natCast, Int.toNat_natCast]
  have d8' : ∀ x, x < L → 97 ≤ τ 7 (s + d + 1 + x) ∧ τ 7 (s + d + 1 + x) ≤ 122 := fun x hx => d8 x (by omega)
  obtain ⟨q, t, e1, e2, e3, e4, e5⟩ := h.1.q
  obtain ⟨p1, p2, p3, p4⟩ := h.2.2.2.2
  have hR := h.2.1
  rw [e1, Int.toNat_natCast] at hR
  have hkv := d5 d (Nat.le_refl d)
  have h80 : len ≤ 80 := by omega
  have hL40 : L ≤ 40 := by omega
  generalize hTT : s + d + 1 = T at *
  obtain ⟨u, u1, u2, u3, u4, u5, u6⟩ := let_loop (τ := up2 τ 0 10 0) (len := len) (T := T) (L := L) (by rw [up2_n (by omega)]; exact hlen) up2_s d9 h80 hL40 (by rw [up2_ne (by omega)]; exact d8') (by rw [up2_ne (by omega)]; exact he')
  have uc : ∀ c, c ≠ 0 → c ≠ 8 → u c = τ c := fun c c0 c8 => by rw [u2 c c0 c8, up2_ne c0]
  have u0 : ∀ j, j ≠ 10 → u 0 j = τ 0 j := fun j hj => by rw [u3 j hj, up2_n (by omega)]
  have u8l : ∀ x, x < L → u 8 x = τ 7 (T + x) - 97 := fun x hx => by rw [u5 x hx, up2_ne (by omega)]
  have ut1 : u 1 = τ 1 := uc 1 (by omega) (by omega)
  have utl : TL u := fun k hk => by
    by_cases c1 : k < L
    · have := d8' k c1
      rw [u8l k c1]
      omega
    · rw [u6 k (by omega), up2_ne (by omega)]
      exact p4 k hk
  have hmod : ∀ (r : Int) (τ2 : Blk), (r = 0 ∨ r = 1) → f_X5_writes u (kv (τ 7) s d) = some (r, τ2) → ∀ (j3 : Int → Blk → Option (Int × Blk)) (n y : Nat), y < 40 → f_X5_write_L26 j3 (n + 1) (y : Int) (s : Int) 1 τ = f_X5_write_L26 j3 n ((y : Int) + r) ((T + L + 1 : Nat) : Int) r τ2 := by
    intro r τ2 hr hw j3 n y hy
    rw [f_X5_write_L26, if_neg (show ¬ ((1 : Int) = 0) by decide), hlen, if_neg (show ¬ (len : Int) ≤ (s : Int) by omega), jp_t, key_loop d3 d4 d5 (by omega), show ((s + d : Nat) : Int) + 1 = (T : Int) by omega, ck_t (a := (T : Int)) (by omega), bs, pf_t, jp_t, u1, show ((T + L : Nat) : Int) + 1 = ((T + L + 1 : Nat) : Int) by omega, ck_t (a := ((T + L + 1 : Nat) : Int)) (by omega), bs, hw, bd2_t, jp_t]
    rcases hr with rfl | rfl
    · rw [if_pos rfl]
      dsimp only
      rw [ck_t (by omega), bs]
    · rw [if_neg (show ¬ ((1 : Int) = 0) by decide)]
      dsimp only
      rw [ck_t (by omega), bs]
  obtain ⟨β', b1, b2⟩ := x0_copyFrom (σ := B t) (τ := B q)
  have hcp := hR.congrB b2
  have hkk : ∀ (β2 : Blk) (k : Nat), (k : Int) ≠ σ 0 4 → ub (ub B t β') t β2 k = B k := fun β2 k hk => by
    rw [ub_n (by omega), ub_n (by omega)]
  have hpre : ∀ (v : Int) (β2 : Blk), f_X0_layRow β' (kv (τ 7) s d) (L : Int) = some (v, β2) → f_X4_writePadRow σ B nb (i : Int) = if v ≠ -1 then (f_X4_writePadRow_L49 t v (T : Int) (fun (σ10 : Blk) (B11 : Nat → Blk) (N12 : Nat) => bd3 (f_X4_takeTrial σ10 B11 N12) fun σ13 B14 N15 => some (1, σ13, B14, N15)) fu 0 σ (ub (ub B t β') t β2) nb) else some (0, σ, ub (ub B t β') t β2, nb) := fun v β2 hv => by
    unfold f_X4_writePadRow
    rw [gk_t e2 e4, gk_t e1 e3, ne_t (by omega), b1, cbU_t, gk_t e2 e4, ld_t i rfl hi, hK, bs, ld_t i rfl hi, hL, bs, ub_s, hv, cbW_t, ld_t i rfl hi, hT, bs, jp_t]
  rcases lay_row (β := β') (τ := u) (a := kv (τ 7) s d) (len := (L : Int)) (by rw [ut1]; exact hcp.1) hkv u4 (by omega) (fun k hk => utl k (by omega)) with ⟨r', β2, τ2, r0, r1, r2, r3, r5, r6, r7, r8, r9, r10, r11⟩ | ⟨β2, τ2, r2, r3, r5, r6⟩
  · have hi7 : isr (τ2 1) r' := r7
    obtain ⟨B3, w1, w2, w3, w4⟩ := pad_text (σ := σ) (B := ub (ub B t β') t β2) (nb := nb) (t := t) (L := L) (T := T) (r := r') e4 r0 (by omega) hL40 (by rw [ub_s, (r3.2.2.2.2.1 r' r0 hi7).1, r6.1, u4]) (fun x hx => by rw [(p3 (T + x) (by omega)).1]; exact d8' x hx)
    have hB : RB (B3 t) (τ2 1) := by
      refine ⟨r3.txt (fun c hc => by rw [w3 c (by omega), ub_s]), fun x hx hi2 k hk2 => ?_⟩
      by_cases e : x = r'
      · subst e
        rw [r6.1, u4] at hk2
        rw [w4 k (by omega), r6.2.2 k (by rw [u4]; exact hk2), u8l k (by omega), (p3 (T + k) (by omega)).1]
      · rw [r10 x hx e 0 (by omega), ut1] at hi2
        rw [r10 x hx e 2 (by omega), ut1] at hk2
        have hl2 := (hcp.1.2.2.2.2.1 x hx hi2).2.1
        rw [w3 _ (by omega), ub_s, r9 _ (by omega), lt_c (s := τ 1) (fun m hm => by rw [r10 x hx e _ (by omega), ut1]) (by omega)]
        exact hcp.2 x hx hi2 k hk2
    have hB3 : Rel σ B3 nb τ := h.cB (fun k hk => by rw [w2 k (by omega)]; exact hkk β2 k hk)
    have f4 : ∀ c, c = 2 ∨ (4 ≤ c ∧ c ≤ 7) → τ2 c = τ c := fun c hc => by rw [r5.1 c (by omega) (by omega) (by omega) (by omega), uc c (by omega) (by omega)]
    have f0 : ∀ j, j ≠ 10 → j ≠ 12 → τ2 0 j = τ 0 j := fun j h1 h2 => by rw [r5.2 j h2, u0 j h1]
    obtain ⟨σ', k1, k2, k3⟩ := take_ok (τ := τ2) h.1 (by rw [e2, Int.toNat_natCast]; exact hB) (hB3.2.2.1.cT (f0 4 (by omega) (by omega)) (f4 4 (by omega))) (hB3.2.2.2.1.cT (f4 5 (by omega)) (f4 6 (by omega))) (h.2.2.2.2.congr rfl rfl (f0 8 (by omega) (by omega)) (f4 7 (by omega)) (fun _ => TL.of (r5.1 8 (by omega) (by omega) (by omega) (by omega)) utl))
    refine ⟨1, σ', B3, nb, τ2, Or.inr rfl, ?_, hmod 1 τ2 (Or.inr rfl) r2, k2, take_c h.1 k1, f4 7 (by omega), f0 8 (by omega) (by omega)⟩
    rw [hpre _ _ r1, if_pos (show (r' : Int) ≠ -1 by omega), w1, k1, bd3_t]
  · refine ⟨0, σ, ub (ub B t β') t β2, nb, τ2, Or.inl rfl, ?_, hmod 0 τ2 (Or.inl rfl) r3, (h.cB (hkk β2)).cT (fun j hj => by rw [r6 j hj, ut1]) ⟨fun c hc => by rw [r5.1 c (by omega) (by omega) (by omega) (by omega)]; exact uc c (by omega) (by omega), by rw [r5.2 4 (by omega)]; exact u0 4 (by omega), by rw [r5.2 8 (by omega)]; exact u0 8 (by omega), fun _ => TL.of (r5.1 8 (by omega) (by omega) (by omega) (by omega)) utl⟩, fun _ _ => rfl, by rw [r5.1 7 (by omega) (by omega) (by omega) (by omega)]; exact uc 7 (by omega) (by omega), by rw [r5.2 8 (by omega)]; exact u0 8 (by omega)⟩
    rw [hpre _ _ r2, if_neg (show ¬ ((-1 : Int) ≠ -1) by decide)]
