/-! PURE: layRow beside writes -/
theorem lay_row {β τ : Blk} {a len : Int} (h : RBc (isr (τ 1)) β (τ 1)) (ha : 0 ≤ a ∧ a < 100) (h10 : τ 0 10 = len) (hl : 0 ≤ len ∧ len ≤ 40) (ht : ∀ k : Nat, (k : Int) < len → 0 ≤ τ 8 k ∧ τ 8 k < 32) :
    (∃ (r : Nat) (β' τ' : Blk), r < 30 ∧ f_X0_layRow β a len = some ((r : Int), β') ∧ f_X5_writes τ a = some (1, τ') ∧ RBc (isr (τ' 1)) β' (τ' 1) ∧ Fx τ τ' ∧ TXT r τ τ' ∧ pt (τ' 1) r 0 = 1 ∧ pt (τ' 1) r 1 = a ∧ (∀ c, 44 ≤ c → β' c = β c) ∧ (∀ x, x < 30 → x ≠ r → ∀ k, k < 12 → pt (τ' 1) x k = pt (τ 1) x k) ∧ (rk β a = -1 ∨ rk β a = r)) ∨ (∃ β' τ', f_X0_layRow β a len = some (-1, β') ∧ f_X5_writes τ a = some (0, τ') ∧ Fx τ τ' ∧ ∀ j, j < 763 → τ' 1 j = τ 1 j) := by
  have hh := h
  obtain ⟨hS, hR, hP, hF, hL, hZ, -⟩ := h
  obtain ⟨σ3, m1, m2, m3, -⟩ := x5_moves (σ := τ) (i1 := 1) (n1 := 763) (i3 := 3) (n3 := 763) (a2 := 0) (a4 := 0) 0 0 (by omega) (by omega) (by omega) (by omega) (by omega)
  have e1 : σ3 1 = τ 1 := m2 1 (by omega)
  have e0 : σ3 0 = τ 0 := m2 0 (by omega)
  have e8 : σ3 8 = τ 8 := m2 8 (by omega)
  have hfx3 : Fx τ σ3 := ⟨fun c _ _ h3 _ => m2 c h3, fun j _ => by rw [e0]⟩
  have back : ∀ u, Fx σ3 u → u 3 = σ3 3 → ∃ τ', f_X5_moves u 3 763 0 1 763 0 = some τ' ∧ Fx τ τ' ∧ ∀ j, j < 763 → τ' 1 j = τ 1 j := by
    intro u hu hu3
    obtain ⟨τ', b1, b2, b3, -⟩ := x5_moves (σ := u) (i1 := 3) (n1 := 763) (i3 := 1) (n3 := 763) (a2 := 0) (a4 := 0) 0 0 (by omega) (by omega) (by omega) (by omega) (by omega)
    refine ⟨τ', b1, (hfx3.tr hu).tr ⟨fun c _ h1 _ _ => b2 c h1, fun j _ => by rw [b2 0 (by omega)]⟩, fun j hj => ?_⟩
    have h1 := b3 j hj
    have h2 := m3 j hj
    rw [Nat.zero_add] at h1 h2
    rw [h1, hu3, h2]
  unfold f_X0_layRow f_X5_writes
  rw [x0_rowOf hR, bs, x5_rowWith hR, bs, m1]
  dsimp only [jp]
  rcases hR.key a with hk | ⟨r, hr, hk, hi, hka, h7⟩
  · rw [hk, if_pos rfl, if_neg (show ¬ ((-1 : Int) ≠ -1) by decide), if_neg (show ¬ ((-6 : Int) ≠ -6) by decide), ld_t 2 (by omega) (by omega), bs, x0_addRow hR ha hS.2.2]
    by_cases ez : fz (τ 1) < 30
    · have hne := (fz_lt hR).mp ez
      have h0 : pt (τ 1) (fz (τ 1)) 0 = 0 := firstZ_z (f := fun r => pt (τ 1) r 0) 30 0 ez
      have hRa := hR.add ha ez hk
      have hpa := fun x k (hx : x < 30) (hk : k < 12) => pt_addS (s := τ 1) (a := a) ez hx hk
      have hs2 : 0 ≤ τ 1 2 ∧ τ 1 2 ≤ 30 := by
        rw [hR.2.2]
        constructor
        · exact sumN_nonneg (fun i hi => by show 0 ≤ pt (τ 1) i 0; have := hR.is hi; omega)
        · have := sumN_le (f := fun r => pt (τ 1) r 0) (n := 30) (b := 1) (fun i hi => by show pt (τ 1) i 0 ≤ 1; have := hR.is hi; omega)
          omega
      rw [if_pos hne, bs, if_neg (show ¬ ((-6 : Int) ≠ -6) by decide), if_pos ez, bd2_t, if_pos (show ((fz (τ 1) : Nat) : Int) ≠ -1 by omega), x5_freeRow (by rw [e1]; exact ez), e1]
      generalize hr0 : fz (τ 1) = r at *
      rw [sw_t r rfl ez, bs, bs, x5_setPart r 0 rfl (by omega) ez (by omega), bs, x5_setPart r 1 rfl (by omega) ez (by omega), bs, ld_t 2 (by omega) (by omega), bs]
      have e2 : up2 (up2 σ3 1 (3 + (12 * r + 0)) 1) 1 (3 + (12 * r + 1)) a 1 2 = τ 1 2 := by rw [up2_n (by omega), up2_n (by omega), e1]
      rw [e2, ck_t (by omega), bs, sw_t 2 (by omega) (by omega), bs]
      generalize hu : up2 (up2 (up2 σ3 1 (3 + (12 * r + 0)) 1) 1 (3 + (12 * r + 1)) a) 1 2 (τ 1 2 + 1) = u
      have hu1 : u 1 = addS (τ 1) r a := by rw [← hu, up2_row, up2_row, up2_row, e1]; rfl
      have huc : ∀ c, c ≠ 1 → u c = σ3 c := fun c hc => by rw [← hu, up2_ne hc, up2_ne hc, up2_ne hc]
      generalize hb : up2 (addB β r a) 8 r len = b
      have hbc : ∀ c, c ≠ 0 → c ≠ 6 → c ≠ 7 → c ≠ 8 → b c = β c := fun c h1 h2 h3 h4 => by rw [← hb, up2_ne h4]; unfold addB; rw [up2_ne h1, up2_ne h2, up2_ne h3]
      have hb8 : b 8 = us (β 8) r len := by rw [← hb, up2_row]; unfold addB; rw [up2_ne (by omega), up2_ne (by omega), up2_ne (by omega)]
      have hb7 : b 7 = us (β 7) r a := by rw [← hb, up2_ne (by omega)]; unfold addB; rw [up2_ne (by omega), up2_ne (by omega), up2_row]
      have hb0 : b 0 = us (β 0) 2 (β 0 2 + 1) := by rw [← hb, up2_ne (by omega)]; unfold addB; rw [up2_row, up2_ne (by omega), up2_ne (by omega)]
      have hb7' : b 7 = addB β r a 7 := by rw [← hb, up2_ne (by omega)]
      have hb6' : b 6 = addB β r a 6 := by rw [← hb, up2_ne (by omega)]
      have hsj : ∀ j, j = 0 ∨ j = 1 ∨ 363 ≤ j → u 1 j = τ 1 j := fun j hj => by rw [hu1]; unfold addS; rw [us_n (by omega), us_n (by omega), us_n (by omega)]
      have hPP : PP b = PP β := by
        funext x i
        show b (13 + x) i = β (13 + x) i
        rw [hbc _ (by omega) (by omega) (by omega) (by omega)]
      have hS1 : SET b (u 1) := by
        refine ⟨?_, ?_, ?_⟩
        · rw [hb0, us_n (by omega), hsj 0 (by omega)]; exact hS.1
        · rw [hb0, us_n (by omega), hsj 1 (by omega)]; exact hS.2.1
        · rw [hb0, us_s, hu1]; unfold addS; rw [us_s, hS.2.2]
      have hR1 : RW b (u 1) := by
        rw [hu1]
        exact hRa.congr (fun k _ => by rw [hb6']) (fun x _ => by rw [hb7']) rfl (fun _ _ => ⟨rfl, rfl⟩)
      have hPb : PG b (u 1) (b 7) := hP.congr (fun c h1 h2 => hbc c (by omega) (by omega) (by omega) (by omega)) (fun q hq => hsj _ (by omega)) (fun q hq hq0 => by
        obtain ⟨r', hr', hw', e⟩ := hF.rowof hq hq0
        rw [e, Int.toNat_natCast, hb7, us_n]
        intro z
        have hz : pt (τ 1) r' 0 = 1 := hw'
        rw [z] at hz
        omega)
      have hFb : FI (u 1) (isr (τ 1)) (b 10) (b 9) (b 11) (PP b) (fun _ => False) := by
        rw [hPP, hbc 9 (by omega) (by omega) (by omega) (by omega), hbc 10 (by omega) (by omega) (by omega) (by omega), hbc 11 (by omega) (by omega) (by omega) (by omega)]
        exact hF.congr (fun q hq => hsj _ (by omega)) (fun _ _ => Iff.rfl) (fun _ _ _ => ⟨rfl, rfl, rfl, fun _ _ => rfl⟩)
      have hu010 : u 0 10 = len := by rw [huc 0 (by omega), e0]; exact h10
      have hu8 : u 8 = τ 8 := by rw [huc 8 (by omega), e8]
      have hfxu : Fx σ3 u := ⟨fun c _ h1 _ _ => huc c h1, fun j _ => by rw [huc 0 (by omega)]⟩
      have hnw : ¬ isr (τ 1) r := fun z => by have : pt (τ 1) r 0 = 1 := z; omega
      have hptu : ∀ x k, x < 30 → k < 12 → pt (u 1) x k = if x = r then (if k = 0 then 1 else if k = 1 then a else pt (τ 1) x k) else pt (τ 1) x k := fun x k hx hk => by rw [hu1]; exact hpa x k hx hk
      rcases write_new (β := b) (τ := u) (w := isr (τ 1)) (len := len) ez hnw hPb hFb (by rw [hb8, us_s]) hu010 hl (by rw [hu8]; exact ht) hS1.1 hS1.2.1 with ⟨β', τ', f1, f2, f3⟩ | ⟨β', τ', f1, f2, f3⟩
      · have hir : pt (u 1) r 0 = 1 := by rw [hptu r 0 ez (by omega), if_pos rfl, if_pos rfl]
        have hc := rbc_of_wok ez f3 hS1 hR1 (fun x hx hw => by
          rw [hptu x 0 hx (by omega)]
          by_cases e : x = r
          · rw [if_pos e, if_pos rfl]
          · rw [if_neg e]; exact hw.resolve_right e) (by rw [hb8, us_s]; exact hu010.symm) (by rw [hu010]; exact hl) (fun x hx e hi => by
          have hq : ∀ k, k < 12 → pt (u 1) x k = pt (τ 1) x k := fun k hk => by rw [hptu x k hx hk, if_neg e]
          rw [hq 0 (by omega)] at hi
          have h1 := hL x hx hi
          rw [hq 2 (by omega), hq 3 (by omega), hq 4 (by omega), hb8, us_n e, hbc 9 (by omega) (by omega) (by omega) (by omega), hbc 10 (by omega) (by omega) (by omega) (by omega)]
          exact ⟨h1.1, h1.2.1, h1.2.2.1.congr hq, fun hw => h1.2.2.2 (hw.resolve_right e)⟩) (fun x hx hi => by
          have e : x ≠ r := fun z => hi (by rw [z]; exact hir)
          rw [hptu x 2 hx (by omega), if_neg e]
          rw [hptu x 0 hx (by omega), if_neg e] at hi
          exact hZ x hx hi) hir
        obtain ⟨a1, a2, a3, a4, a5, a6, -⟩ := f3
        have hp : ∀ x k, x < 30 → k < 12 → (x ≠ r ∨ k < 2) → pt (τ' 1) x k = pt (u 1) x k := fun x k hx hk h => a5 _ (by omega) (by unfold UT; omega) (by omega) (by omega)
        rw [f1, f2, bd2_t, bd2_t, if_neg (show ¬ ((1 : Int) = 0) by decide), if_pos (show (1 : Int) ≠ 0 by decide), ckB_t (by omega), bs]
        refine Or.inl ⟨r, β', τ', ez, rfl, rfl, hc.congrW (fun x hx => ?_), (hfx3.tr hfxu).tr a3, ?_, ?_, ?_, fun c hc => by rw [a1 c (by omega)]; exact hbc c (by omega) (by omega) (by omega) (by omega), fun x hx e k hk => by rw [hp x k hx hk (Or.inl e), hptu x k hx hk, if_neg e], Or.inl rfl⟩
        · unfold isr
          rw [hp x 0 hx (by omega) (by omega), hptu x 0 hx (by omega)]
          by_cases e : x = r
          · rw [if_pos e, if_pos rfl]; exact ⟨fun _ => Or.inr e, fun _ => rfl⟩
          · rw [if_neg e]; exact ⟨fun z => Or.inl z, fun z => z.resolve_right e⟩
        · unfold TXT at a6 ⊢
          rw [hu8, hu010, ← h10] at a6
          exact a6
        · rw [hp r 0 ez (by omega) (by omega)]; exact hir
        · rw [hp r 1 ez (by omega) (by omega), hptu r 1 ez (by omega), if_pos rfl, if_neg (by omega), if_pos rfl]
      · obtain ⟨τ'', g1, g2, g3⟩ := back τ' (hfxu.tr f3.1) (by rw [f3.2, huc 3 (by omega)])
        rw [f1, f2, bd2_t, bd2_t, if_pos rfl, if_neg (show ¬ ((0 : Int) ≠ 0) by decide), g1, bs, ckB_t (by omega), bs]
        exact Or.inr ⟨_, τ'', rfl, rfl, g2, g3⟩
    · have h30 : ¬ τ 1 2 ≠ 30 := fun z => ez ((fz_lt hR).mpr z)
      rw [if_neg h30, if_neg ez, bd2_t, if_neg (by decide)]
      exact Or.inr ⟨_, τ, rfl, rfl, Fx.rf, fun _ _ => rfl⟩
  · rw [hk, if_neg (show ¬ ((r : Int) = -1) by omega), if_pos (show (r : Int) ≠ -1 by omega), if_pos (show (r : Int) ≠ -6 by omega), bs, if_pos (show (r : Int) ≠ -6 by omega), sw_t r rfl hr, bs]
    generalize hb : up2 β 8 r len = b
    have hbc : ∀ c, c ≠ 8 → b c = β c := fun c hc => by rw [← hb, up2_ne hc]
    have hb8 : b 8 = us (β 8) r len := by rw [← hb, up2_row]
    have hPP : PP b = PP β := by
      funext x i
      show b (13 + x) i = β (13 + x) i
      rw [hbc _ (by omega)]
    have hS1 : SET b (σ3 1) := by unfold SET; rw [hbc 0 (by omega), e1]; exact hS
    have hR1 : RW b (σ3 1) := by
      rw [e1]
      exact hR.congr (fun k _ => by rw [hbc 6 (by omega)]) (fun x _ => by rw [hbc 7 (by omega)]) rfl (fun _ _ => ⟨rfl, rfl⟩)
    have hi' := (hL r hr hi).2.2.2 hi
    rcases write_again (β := b) (τ := σ3) (w := isr (τ 1)) (len := len) hr hi (by rw [e1, hbc 7 (by omega)]; exact hP.congrB (fun c h1 h2 => hbc c (by omega))) (by rw [e1, hPP, hbc 9 (by omega), hbc 10 (by omega), hbc 11 (by omega)]; exact hF) (by rw [e1, hbc 9 (by omega)]; exact hi'.1) (by rw [e1, hbc 10 (by omega)]; exact hi'.2) (by rw [hb8, us_s]) (by rw [e0]; exact h10) hl (by rw [e8]; exact ht) hS1.1 hS1.2.1 with ⟨β', τ', f1, f2, f3⟩ | ⟨β', τ', f1, f2, f3⟩
    · have hc := rbc_of_wok hr f3 hS1 hR1 (fun x hx hw => by rw [e1]; exact hw) (by rw [hb8, us_s, e0]; exact h10.symm) (by rw [e0, h10]; exact hl) (fun x hx e hi2 => by
        rw [e1] at hi2 ⊢
        have h1 := hL x hx hi2
        rw [hb8, us_n e, hbc 9 (by omega), hbc 10 (by omega)]
        exact h1) (by rw [e1]; exact hZ) (by rw [e1]; exact hi)
      obtain ⟨a1, a2, a3, a4, a5, a6, -⟩ := f3
      have hp : ∀ x k, x < 30 → k < 12 → (x ≠ r ∨ k < 2) → pt (τ' 1) x k = pt (τ 1) x k := fun x k hx hk h => by
        rw [← e1]
        exact a5 _ (by omega) (by unfold UT; omega) (by omega) (by omega)
      rw [f1, f2, bd2_t, bd2_t, if_neg (show ¬ ((1 : Int) = 0) by decide), if_pos (show (1 : Int) ≠ 0 by decide), ckB_t (by omega), bs]
      refine Or.inl ⟨r, β', τ', hr, rfl, rfl, hc.congrW (fun x hx => ?_), hfx3.tr a3, ?_, ?_, ?_, fun c hc => by rw [a1 c (by omega)]; exact hbc c (by omega), fun x hx e k hk => hp x k hx hk (Or.inl e), Or.inr rfl⟩
      · unfold isr
        rw [hp x 0 hx (by omega) (by omega)]
      · unfold TXT at a6 ⊢
        rw [e0, e8] at a6
        exact a6
      · rw [hp r 0 hr (by omega) (by omega)]; exact hi
      · rw [hp r 1 hr (by omega) (by omega)]; exact hka
    · obtain ⟨τ'', g1, g2, g3⟩ := back τ' f3.1 f3.2
      rw [f1, f2, bd2_t, bd2_t, if_pos rfl, if_neg (show ¬ ((0 : Int) ≠ 0) by decide), g1, bs, ckB_t (by omega), bs]
      exact Or.inr ⟨_, τ'', rfl, rfl, g2, g3⟩
