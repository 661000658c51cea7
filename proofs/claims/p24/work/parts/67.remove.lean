/-! PURE: a row removed -/
def delR (σ2 : Blk) (r1 : Int) : Option (Int × Blk) :=
  bd2 (f_X5_cellsOfRow σ2 r1) fun r3 σ4 =>
  Option.bind (f_X5_dropPieces σ4 r1) fun σ5 =>
  Option.bind (f_X5_part σ5 r1 4) fun r6 =>
  Option.bind (sw σ5 1 763 (363 + r6) 0) fun σ7 =>
  Option.bind (f_X5_part σ7 r1 3) fun r8 =>
  Option.bind (sw σ7 1 763 (363 + r8) 0) fun σ9 =>
  jp (fun (σ11 : Blk) =>
    Option.bind (ld σ11 1 763 2) fun v12 =>
    Option.bind (ck (v12 - 1)) fun v13 =>
    Option.bind (sw σ11 1 763 2 v13) fun σ14 =>
    some (r3, σ14)) fun j10 =>
  f_X5_delete_L68 r1 j10 fu 0 σ9
theorem del_clear {τ : Blk} {r : Nat} (hr : r < 30) {j : Blk → Option (Int × Blk)} : ∃ u, f_X5_delete_L68 r j fu 0 τ = j u ∧ (∀ c, c ≠ 1 → u c = τ c) ∧ (∀ i, i < 3 + 12 * r ∨ 3 + 12 * r + 12 ≤ i → u 1 i = τ 1 i) ∧ ∀ k, k < 12 → u 1 (3 + (12 * r + k)) = 0 := by
  have key := loopSt (F := fun n (x : Nat) (s : Blk) => f_X5_delete_L68 r j n (x : Int) s) (P := fun x s => (∀ c, c ≠ 1 → s c = τ c) ∧ (∀ i, i < 3 + 12 * r ∨ 3 + 12 * r + 12 ≤ i → s 1 i = τ 1 i) ∧ ∀ k, k < x → s 1 (3 + (12 * r + k)) = 0) (Q := fun o => ∃ u, o = j u ∧ (∀ c, c ≠ 1 → u c = τ c) ∧ (∀ i, i < 3 + 12 * r ∨ 3 + 12 * r + 12 ≤ i → u 1 i = τ 1 i) ∧ ∀ k, k < 12 → u 1 (3 + (12 * r + k)) = 0) 12 (fun n x s hx hp => ?_) (fun n s hp => ?_) fu 0 τ (by omega) (fu_lt (by omega)) ⟨fun _ _ => rfl, fun _ _ => rfl, fun q hq => by omega⟩
  · exact key
  · obtain ⟨a1, a2, a3⟩ := hp
    show ∃ s', f_X5_delete_L68 r j (n + 1) (x : Int) s = f_X5_delete_L68 r j n ((x + 1 : Nat) : Int) s' ∧ _
    rw [f_X5_delete_L68, if_neg (by omega), x5_setPart r x rfl rfl hr hx, bs, ck_t (by omega), bs]
    refine ⟨_, rfl, fun c hc => by rw [up2_ne hc]; exact a1 c hc, fun i hi => by rw [up2_n (by omega)]; exact a2 i hi, fun q hq => ?_⟩
    by_cases e : q = x
    · rw [e, up2_s]
    · rw [up2_n (by omega)]
      exact a3 q (by omega)
  · obtain ⟨a1, a2, a3⟩ := hp
    refine ⟨s, ?_, a1, a2, a3⟩
    show f_X5_delete_L68 _ _ _ _ _ = _
    rw [f_X5_delete_L68, if_pos (by omega)]
theorem RW.s2 {β : Blk} {s : Nat → Int} (h : RW β s) : 0 ≤ s 2 ∧ s 2 ≤ 30 := by
  rw [h.2.2]
  constructor
  · exact sumN_nonneg (fun i hi => by show 0 ≤ pt s i 0; have := h.is hi; omega)
  · have := sumN_le (f := fun r => pt s r 0) (n := 30) (b := 1) (fun i hi => by show pt s i 0 ≤ 1; have := h.is hi; omega)
    omega
theorem remove_row {β τ : Blk} (h : RB β (τ 1)) {r : Nat} (hr : r < 30) (hi : pt (τ 1) r 0 = 1) : ∃ (v : Int) (β' τ' : Blk), f_X0_cellsOf β r = some v ∧ f_X0_removeRow β r = some β' ∧ delR τ r = some (v, τ') ∧ RB β' (τ' 1) ∧ Fx τ τ' := by
  obtain ⟨⟨hS, hR, hP, hF, hL, hZ, hW⟩, hT⟩ := h
  have hl := (hL r hr hi).2.2.2 hi
  have hcl := x0_cellsOf hP hF hr hi
  obtain ⟨σ4, q1, q2⟩ := x5_cellsOfRow hP.1 hF hr hi hl.1 hl.2
  have e4 : σ4 1 = τ 1 := q2.1 1 (by omega) (by omega)
  obtain ⟨β1, c1, c2, c3⟩ := x0_lift hP hF hr hi
  obtain ⟨τ1, d1, d2, d3, d4⟩ := x5_dropPieces (σ := σ4) (by rw [e4]; exact hP.1) (by rw [e4]; exact hF) hr hi
  rw [e4] at d3
  have hF1 := hF.drop hr hi
  have hF2 := hF1.unhead hr hi us_s
  obtain ⟨⟨l0, o1, o2, o3⟩, o4, o5, o6, -, -⟩ := hF1.own hr hi
  have hD0 : ∀ j, j < 363 → dropS (τ 1) (PP β r) (β 11 r).toNat j = τ 1 j := fun j hj => dropS_out (fun i _ => by omega)
  have c3' : PG β1 (dropS (τ 1) (PP β r) (β 11 r).toNat) (β 7) := c3
  clear c3
  generalize hD : dropS (τ 1) (PP β r) (β 11 r).toNat = D at *
  obtain ⟨a, ha⟩ : ∃ a : Nat, β 10 r = a := ⟨(β 10 r).toNat, by omega⟩
  obtain ⟨g, hg⟩ : ∃ g : Nat, β 9 r = g := ⟨(β 9 r).toNat, by omega⟩
  rw [ha, Int.toNat_natCast] at o3 hF2
  have hP0 : PG (up2 β1 11 r 0) D (β 7) := c3'.congrB (fun c h1 h2 => up2_ne (by omega))
  have hP1 := hP0.vac (q := a) (by omega)
  have hnote : g ≠ a → us D (363 + a) 0 (363 + g) = mk 3 r 0 0 := fun hne => by
    rw [us_n (by omega)]
    have h1 := o6 (by omega)
    rw [hg, Int.toNat_natCast] at h1
    exact h1
  have hk3 := mk_dec (k := 3) (r := (r : Int)) (n := 0) (l := 0) (by omega) (by omega) (by omega) (by omega)
  have hF3 := hF2.setE (j := g) (t := 0) (E' := fun _ => False) (by omega) (by
    by_cases e : g = a
    · left; rw [e, us_s]
    · right
      refine ⟨⟨hg, by omega⟩, fun r' hr' hw' hii => ?_⟩
      have h9 := hii.row hr' (hF2.own hr' hw').2.2.2.2.1.2
      rw [hnote e, hk3.2.1] at h9
      exact hw'.2 (by omega)) (fun q _ hq hE => hq (by have := hE.1; omega)) (fun z => absurd rfl z)
  have ht4 : pt (τ1 1) r 4 = a := by
    rw [d3]
    show D _ = _
    rw [hD0 _ (by omega), ← ha]
    exact hl.2
  have ht3 : pt (us D (363 + a) 0) r 3 = g := by
    rw [pt_us2 (by omega) hr (by omega)]
    show D _ = _
    rw [hD0 _ (by omega), ← hg]
    exact hl.1
  generalize hb0 : up2 β1 11 r 0 = b0 at *
  have hb0c : ∀ c, c < 2 ∨ (5 < c ∧ c ≠ 11) → b0 c = β c := fun c hc => by rw [← hb0, up2_ne (by omega)]; exact c2 c (by omega)
  have hb011 : b0 11 = us (β 11) r 0 := by rw [← hb0, up2_row, c2 11 (by omega)]
  -- the class's pages after
  have hcls : ∃ b2, AgB b0 b2 ∧ PG b2 (us (us D (363 + a) 0) (363 + g) 0) (β 7) ∧ ∀ j : Blk → Option Blk, (if (if β 10 r = β 9 r then (0 : Int) else 1) = 0 then j (vacB b0 a) else (Option.bind (ld (vacB b0 a) 9 30 r) fun v12 => Option.bind (f_X3_vacate (vacB b0 a) v12) fun σ13 => j σ13)) = j b2 := by
    by_cases e : g = a
    · refine ⟨vacB b0 a, vacB_ag, by rw [e, us_us]; exact hP1, fun j => ?_⟩
      rw [if_pos (show β 10 r = β 9 r by omega), if_pos rfl]
    · refine ⟨vacB (vacB b0 a) g, AgB.tr vacB_ag vacB_ag, hP1.vac (by omega), fun j => ?_⟩
      have e9 : vacB b0 a 9 = β 9 := by rw [vacB_ag 9 (by omega), hb0c 9 (by omega)]
      rw [if_neg (show ¬ β 10 r = β 9 r by omega), if_neg (by decide), ld_t r rfl hr, bs, e9, hg, hP1.x3v (by omega), bs]
  obtain ⟨b2, g1, g2, g3⟩ := hcls
  have hb2c : ∀ c, c < 2 ∨ (5 < c ∧ c ≠ 11) → b2 c = β c := fun c hc => by rw [g1 c (by omega)]; exact hb0c c hc
  have hb211 : b2 11 = us (β 11) r 0 := by rw [g1 11 (by omega)]; exact hb011
  have hof := hR.of hr hi
  obtain ⟨key, hkey⟩ : ∃ k : Nat, pt (τ 1) r 1 = k := ⟨(pt (τ 1) r 1).toNat, by omega⟩
  rw [hkey] at hof
  have hs2 := hR.s2
  generalize hb' : up2 (up2 (up2 b2 6 key (-1)) 7 r (-1)) 0 2 (β 0 2 - 1) = β'
  have hcl2 : f_X0_removeRow β r = some β' := by
    unfold f_X0_removeRow
    have e10 : b0 10 = β 10 := hb0c 10 (by omega)
    rw [c1, bs, ld_t r rfl hr, bs, e10, ha, hP0.x3v (by omega), bs, x0_hasMoved hr, bs, vacB_ag 10 (by omega), vacB_ag 9 (by omega), e10, hb0c 9 (by omega)]
    dsimp only [jp]
    rw [g3 (fun σ6 => Option.bind (ld σ6 7 30 r) fun v7 => Option.bind (sw σ6 6 100 v7 ((-1))) fun σ8 => Option.bind (sw σ8 7 30 r ((-1))) fun σ9 => Option.bind (ck ((σ9 0 2) - 1)) fun v10 => pf σ9 0 2 v10 fun σ11 => some σ11)]
    have e02 : up2 (up2 b2 6 key (-1)) 7 r (-1) 0 2 = β 0 2 := by rw [up2_n (by omega), up2_n (by omega), hb2c 0 (by omega)]
    have h02 := hS.2.2
    rw [ld_t r rfl hr, bs, hb2c 7 (by omega), hof.2.2.2, sw_t key rfl (by omega), bs, sw_t r rfl hr, bs, e02, ck_t (by omega), bs, pf_t, hb']
  obtain ⟨u, u1, u2, u3, u4⟩ := del_clear (τ := up2 (up2 τ1 1 (363 + a) 0) 1 (363 + g) 0) hr (j := fun (σ11 : Blk) => Option.bind (ld σ11 1 763 2) fun v12 => Option.bind (ck (v12 - 1)) fun v13 => Option.bind (sw σ11 1 763 2 v13) fun σ14 => some (cellV (τ 1) (β 10 r) (β 9 r) (PP β r) (β 11 r).toNat, σ14))
  have hu2 : u 1 2 = τ 1 2 := by
    rw [u3 2 (by omega), up2_n (by omega), up2_n (by omega), d3]
    exact hD0 2 (by omega)
  have hmod : delR τ r = some (cellV (τ 1) (β 10 r) (β 9 r) (PP β r) (β 11 r).toNat, up2 u 1 2 (τ 1 2 - 1)) := by
    unfold delR
    have e1 : up2 τ1 1 (363 + a) 0 1 = us D (363 + a) 0 := by rw [up2_row, d3]
    rw [q1, bd2_t, d1, bs, x5_part r 4 rfl (by omega) hr (by omega), bs, ht4, sw_t (363 + a) (by omega) (by omega), bs, x5_part r 3 rfl (by omega) hr (by omega), bs, e1, ht3, sw_t (363 + g) (by omega) (by omega), bs]
    dsimp only [jp]
    rw [u1, ld_t 2 (by omega) (by omega), bs, hu2, ck_t (by omega), bs, sw_t 2 (by omega) (by omega), bs]
  refine ⟨_, β', _, hcl, hcl2, hmod, ?_, ?_⟩
  · rw [up2_row]
    generalize hv : us (u 1) 2 (τ 1 2 - 1) = S
    have hSq : ∀ q, q < 400 → S (363 + q) = us (us D (363 + a) 0) (363 + g) 0 (363 + q) := fun q hq => by
      rw [← hv, us_n (by omega), u3 _ (by omega), up2_row, up2_row, d3]
    have hSj : ∀ j, j < 363 → j ≠ 2 → j < 3 + 12 * r ∨ 3 + 12 * r + 12 ≤ j → S j = τ 1 j := fun j h1 h2 h3 => by
      rw [← hv, us_n h2, u3 j h3, up2_n (by omega), up2_n (by omega), d3]
      exact hD0 j h1
    have hSp : ∀ y k, y < 30 → k < 12 → pt S y k = if y = r then 0 else pt (τ 1) y k := fun y k hy hk => by
      by_cases e : y = r
      · rw [if_pos e, e]
        show S (3 + (12 * r + k)) = 0
        rw [← hv, us_n (by omega)]
        exact u4 k hk
      · rw [if_neg e]
        exact hSj _ (by omega) (by omega) (by omega)
    have hS2 : S 2 = τ 1 2 - 1 := by rw [← hv, us_s]
    have hbc : ∀ c, 5 < c → c ≠ 6 → c ≠ 7 → c ≠ 11 → β' c = β c := fun c h1 h2 h3 h4 => by rw [← hb', up2_ne (by omega), up2_ne h3, up2_ne h2]; exact hb2c c (by omega)
    have hb7 : β' 7 = us (β 7) r (-1) := by rw [← hb', up2_ne (by omega), up2_row, up2_ne (by omega), hb2c 7 (by omega)]
    have hb6 : β' 6 = us (β 6) key (-1) := by rw [← hb', up2_ne (by omega), up2_ne (by omega), up2_row, hb2c 6 (by omega)]
    have hb0' : β' 0 = us (β 0) 2 (β 0 2 - 1) := by rw [← hb', up2_row, up2_ne (by omega), up2_ne (by omega), hb2c 0 (by omega)]
    have hb11 : β' 11 = us (β 11) r 0 := by rw [← hb', up2_ne (by omega), up2_ne (by omega), up2_ne (by omega)]; exact hb211
    have hPP : PP β' = PP β := by
      funext x i
      show β' (13 + x) i = β (13 + x) i
      rw [hbc _ (by omega) (by omega) (by omega) (by omega)]
    have hF4 : FI S (fun x => isr (τ 1) x ∧ x ≠ r) (β' 10) (β' 9) (β' 11) (PP β') (fun _ => False) := by
      rw [hPP, hbc 10 (by omega) (by omega) (by omega) (by omega), hbc 9 (by omega) (by omega) (by omega) (by omega), hb11]
      exact hF3.congr hSq (fun _ _ => Iff.rfl) (fun _ _ _ => ⟨rfl, rfl, rfl, fun _ _ => rfl⟩)
    have hwi : ∀ x, x < 30 → (isr S x ↔ isr (τ 1) x ∧ x ≠ r) := fun x hx => by
      unfold isr
      rw [hSp x 0 hx (by omega)]
      by_cases e : x = r
      · rw [if_pos e]; exact ⟨fun z => absurd z (by decide), fun z => absurd e z.2⟩
      · rw [if_neg e]; exact ⟨fun z => ⟨z, e⟩, fun z => z.1⟩
    refine ⟨⟨⟨?_, ?_, ?_⟩, ⟨fun x hx => ?_, fun k hk => ?_, ?_⟩, ?_, hF4.congr (fun _ _ => rfl) hwi (fun _ _ _ => ⟨rfl, rfl, rfl, fun _ _ => rfl⟩), fun x hx hx0 => ?_, fun x hx hx0 => ?_, fun x hx hx0 => hx0⟩, fun x hx hx0 k hk => ?_⟩
    · rw [hb0', us_n (by omega), hSj 0 (by omega) (by omega) (by omega)]; exact hS.1
    · rw [hb0', us_n (by omega), hSj 1 (by omega) (by omega) (by omega)]; exact hS.2.1
    · rw [hb0', us_s, hS2, hS.2.2]
    · rw [hSp x 0 hx (by omega), hSp x 1 hx (by omega), hb7, hb6]
      by_cases e : x = r
      · rw [if_pos e, e, us_s]; exact Or.inr ⟨rfl, rfl⟩
      · rw [if_neg e, if_neg e, us_n e]
        rcases hR.1 x hx with h1 | h1
        · refine Or.inl ⟨h1.1, h1.2.1, h1.2.2.1, h1.2.2.2.1, ?_⟩
          rw [us_n (fun z => ?_)]
          · exact h1.2.2.2.2
          · have h2 := hR.of hx h1.1
            have h3 : pt (τ 1) x 1 = key := by omega
            rw [h3, hof.1] at h2
            omega
        · exact Or.inr h1
    · rw [hb6]
      by_cases e : k = key
      · rw [e, us_s]; exact Or.inl rfl
      · rw [us_n e]
        rcases hR.2.1 k hk with h1 | ⟨x, h1, h2, h3, h4⟩
        · exact Or.inl h1
        · have e2 : x ≠ r := fun z => by rw [z, hkey] at h4; omega
          exact Or.inr ⟨x, h1, h2, by rw [hSp x 0 h1 (by omega), if_neg e2]; exact h3, by rw [hSp x 1 h1 (by omega), if_neg e2]; exact h4⟩
    · have h1 := sumN_one (f := fun x => pt (τ 1) x 0) (g := fun x => pt S x 0) hr (fun i hi2 hne => by
        show pt S i 0 = _
        rw [hSp i 0 hi2 (by omega), if_neg hne])
      rw [h1, hSp r 0 hr (by omega), if_pos rfl, hi, ← hR.2.2, hS2]
      omega
    · refine g2.congr (fun c h1 h2 => by rw [← hb', up2_ne (by omega), up2_ne (by omega), up2_ne (by omega)]) hSq (fun q hq h0 => ?_)
      obtain ⟨r', hr', hw', e⟩ := hF3.rowof hq h0
      rw [e, Int.toNat_natCast, hb7, us_n hw'.2]
    · have h1 := (hwi x hx).mp hx0
      have h2 := hL x hx h1.1
      rw [hSp x 2 hx (by omega), hSp x 3 hx (by omega), hSp x 4 hx (by omega), if_neg h1.2, if_neg h1.2, if_neg h1.2, hbc 8 (by omega) (by omega) (by omega) (by omega), hbc 9 (by omega) (by omega) (by omega) (by omega), hbc 10 (by omega) (by omega) (by omega) (by omega)]
      exact ⟨h2.1, h2.2.1, h2.2.2.1.congr (fun k hk => by rw [hSp x k hx hk, if_neg h1.2]), fun _ => h2.2.2.2 h1.1⟩
    · rw [hSp x 2 hx (by omega)]
      by_cases e : x = r
      · rw [if_pos e]
      · rw [if_neg e]
        rw [hSp x 0 hx (by omega), if_neg e] at hx0
        exact hZ x hx hx0
    · have h1 := (hwi x hx).mp hx0
      rw [hSp x 2 hx (by omega), if_neg h1.2] at hk
      have h2 := (hL x hx h1.1).2.1
      rw [hbc (44 + x) (by omega) (by omega) (by omega) (by omega), lt_c (s := τ 1) (fun m hm => by rw [hSp x _ hx (by omega), if_neg h1.2]) (by omega)]
      exact hT x hx h1.1 k hk
  · refine (q2.x.tr d2).tr ⟨fun c h0 h1 h3 h9 => ?_, fun j hj => ?_⟩
    · rw [up2_ne h1, u2 c h1, up2_ne h1, up2_ne h1]
    · rw [up2_ne (by omega), u2 0 (by omega), up2_ne (by omega), up2_ne (by omega)]
