/-! PURE: a row is written again -/
theorem write_again {β τ : Blk} {w : Nat → Prop} {len : Int} {r : Nat} (hr : r < 30) (hw : w r) (hP : PG β (τ 1) (β 7)) (hF : FI (τ 1) w (β 10) (β 9) (β 11) (PP β) (fun _ => False)) (h3 : pt (τ 1) r 3 = β 9 r) (h4 : pt (τ 1) r 4 = β 10 r) (h8 : β 8 r = len) (h10 : τ 0 10 = len) (hl : 0 ≤ len ∧ len ≤ 40) (ht : ∀ k : Nat, (k : Int) < len → 0 ≤ τ 8 k ∧ τ 8 k < 32) (hS0 : β 0 0 = τ 1 0 ∧ 0 ≤ τ 1 0 ∧ τ 1 0 ≤ 16) (hS1 : β 0 1 = τ 1 1 ∧ 1 ≤ τ 1 1 ∧ τ 1 1 ≤ 12) :
    (∃ β' τ', f_X0_layAgain β r = some (1, β') ∧ f_X5_writeAgain τ r = some (1, τ') ∧ WOK w r β τ β' τ') ∨ (∃ β' τ', f_X0_layAgain β r = some (0, β') ∧ f_X5_writeAgain τ r = some (0, τ') ∧ WKO τ τ') := by
  have hlr := hlen_rng hS0.2 hl.1
  obtain ⟨β1, c1, c2, c3⟩ := x0_lift hP hF hr hw
  obtain ⟨τ1, d1, d2, d3, d4⟩ := x5_dropPieces hP.1 hF hr hw
  have hF1 := hF.drop hr hw
  have hF2 := hF1.unhead hr hw us_s
  obtain ⟨⟨l0, o1, o2, o3⟩, o4, o5, o6, -, -⟩ := hF1.own hr hw
  have hD0 : ∀ j, j < 363 → dropS (τ 1) (PP β r) (β 11 r).toNat j = τ 1 j := fun j hj => dropS_out (fun i _ => by omega)
  have c3' : PG β1 (dropS (τ 1) (PP β r) (β 11 r).toNat) (β 7) := c3
  clear c3
  generalize hD : dropS (τ 1) (PP β r) (β 11 r).toNat = D at *
  obtain ⟨a, ha⟩ : ∃ a : Nat, β 10 r = a := ⟨(β 10 r).toNat, by omega⟩
  rw [ha, Int.toNat_natCast] at o3 hF2
  have ht4 : pt (τ1 1) r 4 = a := by
    rw [d3]
    show D _ = _
    rw [hD0 _ (by omega), ← ha]
    exact h4
  have hP0 : PG (up2 β1 11 r 0) D (β 7) := c3'.congrB (fun c h1 h2 => up2_ne (by omega))
  have hP1 := hP0.vac (q := a) (by omega)
  have hfa := hP0.f (p := a / 40) (by omega)
  have hfr := fr_us (s := D) (q := a) (t := 0) (by omega) (a / 40) (by omega)
  have hm0 := mk_cl1 (r := (r : Int)) (n := 0) (l := l0) (by omega) (by omega) (by omega)
  rw [if_pos rfl, cl_0, o3, hm0] at hfr
  unfold f_X0_layAgain f_X5_writeAgain
  rw [c1, bs, ld_t r rfl hr, bs, up2_ne (show (10 : Nat) ≠ 11 by omega), c2 10 (by omega), ha, hP0.x3v (by omega), bs]
  rw [x5_headLetters h10, bs, x5_thing (by omega) (by omega) (by omega) (by omega), bs, d1, bs, x5_part r 4 rfl (by omega) hr (by omega), bs, ht4, sw_t (363 + a) (by omega) (by omega), bs]
  generalize hb : vacB (up2 β1 11 r 0) a = b at *
  generalize htt : up2 τ1 1 (363 + a) 0 = t
  have hbc : ∀ c, c < 2 ∨ (5 < c ∧ c ≠ 11) → b c = β c := fun c hc => by rw [← hb, vacB_ag c (by omega), up2_ne (by omega)]; exact c2 c (by omega)
  have hb11 : b 11 = us (β 11) r 0 := by rw [← hb, vacB_ag 11 (by omega), up2_row, c2 11 (by omega)]
  have ht1 : t 1 = us D (363 + a) 0 := by rw [← htt, up2_row, d3]
  have htc : ∀ c, c ≠ 1 → t c = τ1 c := fun c hc => by rw [← htt, up2_ne hc]
  have htj : ∀ j, j < 363 → t 1 j = τ 1 j := fun j hj => by rw [ht1, us_n (by omega)]; exact hD0 j hj
  have hPP : PP b = PP β := by
    funext x i
    show b (13 + x) i = β (13 + x) i
    rw [hbc _ (by omega)]
  have hhl : hle (t 1) len = hle (τ 1) len := by unfold hle; rw [htj 0 (by omega)]
  have hFx1 : Fx τ t := d2.tr ⟨fun c _ h1 _ _ => htc c h1, fun j _ => by rw [htc 0 (by omega)]⟩
  have ht3 : t 3 = τ 3 := by rw [htc 3 (by omega)]; exact d4
  have ht010 : t 0 10 = len := by rw [hFx1.2 10 (by omega)]; exact h10
  have ht8 : t 8 = τ 8 := hFx1.1 8 (by omega) (by omega) (by omega) (by omega)
  have hHA := head_again (b := b) (t := t) (w := fun x => w x ∧ x ≠ r) (r := r) (len := len) hr (fun z => z.2 rfl) (by rw [hbc 7 (by omega), ht1]; exact hP1) (by
    rw [hbc 10 (by omega), hbc 9 (by omega), hb11, us_us, hPP, ht1, ha]
    exact hF2) (by rw [hbc 10 (by omega)]; exact o4) (by rw [hbc 9 (by omega)]; exact o5) (by rw [hbc 10 (by omega), ha, Int.toNat_natCast, ht1]; exact us_s) (by rw [hbc 10 (by omega), ha, Int.toNat_natCast, ht1]; omega) (by
    rw [hbc 10 (by omega), hbc 9 (by omega), ht1, ha]
    intro hne
    rw [us_n (by omega)]
    exact o6 (by omega)) (by rw [hbc 9 (by omega), ← h3]; exact htj _ (by omega)) (by rw [hbc 10 (by omega), ← h4]; exact htj _ (by omega)) (by rw [hbc 8 (by omega)]; exact h8) hl (by rw [hbc 0 (by omega), htj 0 (by omega)]; exact hS0)
  rw [hhl] at hHA
  generalize hle (τ 1) len = L at hlr hHA ⊢
  rcases hHA with ⟨q, b', t', e1, e2, e3, e4, e5, e6, e7⟩ | ⟨b', t', e1, e2, e3⟩
  · rw [e1, e2, bd2_t, bd2_t, sw_t r rfl hr, bs, ld_t r rfl hr, bs, up2_s, if_neg (by omega), if_pos (by omega), sw_t (363 + q) (by omega) (by omega), bs, x5_setPart r 4 rfl (by omega) hr (by omega), bs]
    generalize hT : mk 1 (r : Int) 0 L = T at *
    generalize hb2 : up2 b' 10 r q = b2
    generalize hu : up2 (up2 t' 1 (363 + q) T) 1 (3 + (12 * r + 4)) q = u
    have hb2c : ∀ c, c < 2 ∨ (5 < c ∧ c ≠ 10 ∧ c ≠ 11) → b2 c = β c := fun c hc => by rw [← hb2, up2_ne (by omega), e4 c (by omega)]; exact hbc c (by omega)
    have hb210 : b2 10 = us (β 10) r q := by rw [← hb2, up2_row, e4 10 (by omega), hbc 10 (by omega)]
    have hb211 : b2 11 = us (β 11) r 0 := by rw [← hb2, up2_ne (by omega), e4 11 (by omega), hb11]
    have huc : ∀ c, c ≠ 1 → u c = t c := fun c hc => by rw [← hu, up2_ne hc, up2_ne hc]; exact e5.1 c hc
    have hu1 : ∀ j, j < 363 → j ≠ 3 + (12 * r + 4) → u 1 j = τ 1 j := fun j h1 h2 => by rw [← hu, up2_n (by omega), up2_n (by omega), e5.2 j h1]; exact htj j h1
    have huq : ∀ x, x < 400 → u 1 (363 + x) = us (t' 1) (363 + q) T (363 + x) := fun x hx => by rw [← hu, up2_n (by omega), up2_row]
    have hPb : PG b2 (u 1) (b2 7) := by
      rw [hb2c 7 (by omega)]
      rw [hbc 7 (by omega)] at e6
      exact e6.congr (fun c h1 h2 => by rw [← hb2, up2_ne (by omega)]) huq (fun _ _ _ => rfl)
    have hPP2 : PP b2 = PP β := by
      funext x i
      show b2 (13 + x) i = β (13 + x) i
      rw [hb2c _ (by omega)]
    have hFb : FI (u 1) (fun x => (w x ∧ x ≠ r) ∨ x = r) (b2 10) (b2 9) (us (b2 11) r 0) (PP b2) (fun _ => False) := by
      rw [hb210, hb211, hb2c 9 (by omega), us_us, hPP2]
      rw [hbc 10 (by omega), hbc 9 (by omega), hb11, us_us, hPP] at e7
      exact e7.congr huq (fun _ _ => Iff.rfl) (fun z hz _ => ⟨rfl, rfl, rfl, fun i _ => rfl⟩)
    have hFx2 : Fx τ u := hFx1.tr ⟨fun c _ h1 _ _ => huc c h1, fun j _ => by rw [huc 0 (by omega)]⟩
    have hu010 : u 0 10 = len := by rw [huc 0 (by omega)]; exact ht010
    have hu8 : u 8 = τ 8 := by rw [huc 8 (by omega)]; exact ht8
    obtain ⟨s, f0, f9, hcase⟩ := fin_row (w := fun x => (w x ∧ x ≠ r) ∨ x = r) hr (Or.inr rfl) hPb hFb (by rw [hb2c 8 (by omega)]; exact h8) hu010 hl (by rw [hu8]; exact ht) (by rw [hb2c 0 (by omega), hu1 0 (by omega) (by omega)]; exact hS0) (by rw [hb2c 0 (by omega), hu1 1 (by omega) (by omega)]; exact hS1)
    rw [f0, bs]
    rcases hcase with ⟨β', τ', f1, f2, f3, f4, f5, f6, f7, f8⟩ | ⟨β', τ', f1, f2, f3⟩
    · rw [f1, f2, bd2_t, bd2_t, if_neg (by decide), ckB_t (by omega), bs]
      have hfx := fx_of (τ := u) (τ' := τ') f4
      have hp3 : ∀ k, k = 3 ∨ k = 4 → pt (τ' 1) r k = pt (u 1) r k := fun k hk => f5 _ (by omega) (by unfold UT; omega)
      refine Or.inl ⟨β', τ', rfl, rfl, fun c hc => by rw [f3.1 c (by omega)]; exact hb2c c (by omega), fun x hx => ?_, hFx2.tr hfx.1, by rw [hfx.2, huc 3 (by omega)]; exact ht3, fun j h1 h2 h3 h4 => by rw [f5 j h1 h2]; exact hu1 j h1 h4, ?_, ?_, ?_, ?_, ?_⟩
      · rw [f3.1 9 (by omega), f3.1 10 (by omega), f3.2 x hx, hb210, hb211, us_n hx, us_n hx, hb2c 9 (by omega)]
        exact ⟨rfl, rfl, rfl⟩
      · unfold TXT at f6 ⊢
        rw [hu8, hu010, ← h10] at f6
        exact f6
      · rw [hb2c 7 (by omega)] at f7; exact f7
      · exact f8.congr (fun _ _ => rfl) (fun z _ => ⟨fun hz => by
          by_cases e : z = r
          · exact Or.inr e
          · exact Or.inl ⟨hz, e⟩, fun hz => hz.elim (fun y => y.1) (fun y => y ▸ hw)⟩) (fun _ _ _ => ⟨rfl, rfl, rfl, fun _ _ => rfl⟩)
      · rw [hp3 3 (by omega), f3.1 9 (by omega), hb2c 9 (by omega), ← h3]
        exact hu1 _ (by omega) (by omega)
      · rw [hp3 4 (by omega), f3.1 10 (by omega), hb210, us_s, ← hu, up2_row, pt_us (by omega) (by omega), if_pos ⟨rfl, rfl⟩]
    · rw [f1, f2, bd2_t, bd2_t, if_pos rfl, ckB_t (by omega), bs]
      have hfx := fx_of (τ := u) (τ' := τ') f3
      exact Or.inr ⟨_, _, rfl, rfl, hFx2.tr hfx.1, by rw [hfx.2, huc 3 (by omega)]; exact ht3⟩
  · rw [e1, e2, bd2_t, bd2_t, sw_t r rfl hr, bs, ld_t r rfl hr, bs, up2_s, if_pos rfl, if_neg (by omega)]
    have hfx := fx_of (τ := t) (τ' := t') e3.1
    exact Or.inr ⟨_, _, rfl, rfl, hFx1.tr hfx.1, by rw [hfx.2]; exact ht3⟩
