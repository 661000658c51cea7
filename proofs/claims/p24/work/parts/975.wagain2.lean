theorem FI.kindrow {s at_ ho np : Nat → Int} {w : Nat → Prop} {pp : Nat → Nat → Int} {E : Nat → Prop} (h : FI s w at_ ho np pp E) {r b : Nat} (hb : b < 400) (hr : r < 30) (h0 : s (363 + b) ≠ 0) (hrw : rwo (s (363 + b)) = r) : (w r ∧ IS s at_ ho np pp r b) ∨ E b := by
  rcases h.2 b hb h0 with ⟨r', hr', hw', hi⟩ | hE
  · have e := hi.row hr' (h.own hr' hw').2.2.2.2.1.2
    have e2 : r' = r := by omega
    subst e2
    exact Or.inl ⟨hw', hi⟩
  · exact Or.inr hE
theorem lw_again {q t ir r n rem : Nat} {len : Int} {T τ : Blk} {at_ ho np : Nat → Int} {w : Nat → Prop} {pp : Nat → Nat → Int} (hqt : q ≠ t) (hqi : q ≠ ir) (hit : ir ≠ t) (hr : r < 7) (hw : w r) (h : TT T q t (τ 1) n) (hT : TK (τ 1)) (hF : FI (τ 1) w at_ ho np pp (fun _ => False)) (h3 : pt (τ 1) r 3 = ho r) (h4 : pt (τ 1) r 4 = at_ r) (hT2 : T ir (4 * r + 2) = ho r) (hT3 : T ir (4 * r + 3) = at_ r) (h10 : τ 0 10 = len) (hlen : 0 ≤ len ∧ len ≤ 40) (htold : ∀ k : Nat, (k : Int) < len → 0 ≤ τ 8 k ∧ τ 8 k < 32) (hS0 : T q 0 = τ 1 0 ∧ 0 ≤ τ 1 0 ∧ τ 1 0 ≤ 16) (hS1 : T q 1 = τ 1 1 ∧ 4 ≤ τ 1 1 ∧ τ 1 1 ≤ 12) (hrem : len ≤ 4 * rem ∧ rem ≤ 10) (hn : n ≤ 50) (hU : Us (τ 1) ≤ 199) :
    ∃ T' τ', f_X5_writeAgain τ r = some (1, τ') ∧ g_L_write T r len 0 q 4 ir 28 t 64 = some (1, T') ∧ WEnd q t ir r rem n len T T' τ τ' (τ 1) := by
  have hr30 : r < 30 := by omega
  obtain ⟨-, ho4, ho5, -, hnp, -⟩ := hF.own hr30 hw
  obtain ⟨τ1, d1, d2, d3, d4⟩ := x5_dropPieces hT hF hr30 hw
  obtain ⟨n1, T1, a1, a2, a3, a4, a5, a6, a7, a8⟩ := law_drops hqt hr hw h hT hF
  have hF1 := hF.drop hr30 hw
  have hF2 := hF1.unhead hr30 hw us_s
  obtain ⟨⟨l0, o1, o2, o3⟩, -, -, o6, -⟩ := hF1.own hr30 hw
  have hD0 : ∀ j, j < 363 → dropS (τ 1) (pp r) (np r).toNat j = τ 1 j := fun j hj => dropS_out (fun i _ => by omega)
  generalize hD : dropS (τ 1) (pp r) (np r).toNat = D at *
  obtain ⟨a, ha⟩ : ∃ a : Nat, at_ r = a := ⟨(at_ r).toNat, by omega⟩
  obtain ⟨b, hb⟩ : ∃ b : Nat, ho r = b := ⟨(ho r).toNat, by omega⟩
  have ha4 : a < 400 := by omega
  have hb4 : b < 400 := by omega
  rw [ha, Int.toNat_natCast] at o3 hF2
  -- the head goes
  have hhr := hlen_rng (s := τ 1) (len := len) hS0.2 hlen.1
  obtain ⟨hl, hhl⟩ : ∃ hl, hle (τ 1) len = hl := ⟨_, rfl⟩
  rw [hhl] at hhr
  obtain ⟨i1, i2, i3, i4⟩ := find_at a2 ha4 o3 (by omega) (by omega) (by omega) (by omega) (fun z z1 z2 z3 z4 z5 => by
    rcases hF1.kindrow z1 hr30 z2 z4 with ⟨-, hi⟩ | hE
    · rcases hi with ⟨x, -, -, -, x4⟩ | ⟨x3, -⟩ | ⟨x, y, x0, x1, x2, x3, -⟩
      · omega
      · rw [x3, (mk_dec (k := 3) (r := (r : Int)) (n := 0) (l := 0) (by omega) (by omega) (by omega) (by omega)).1] at z3
        omega
      · rw [us_s] at x0
        omega
    · exact hE.elim)
  obtain ⟨n2, T2, b1, b2, b3, b4, b5, -⟩ := a2.drop hqt i2 i4
  have mk0 := mk_dec (k := 1) (r := (r : Int)) (n := 0) (l := l0) (by omega) (by omega) (by omega) (by omega)
  have hmc0 := mk_cl1 (r := (r : Int)) (n := 0) (l := l0) (by omega) (by omega) (by omega)
  obtain ⟨S2, hS2⟩ : ∃ S2, us D (363 + a) 0 = S2 := ⟨_, rfl⟩
  have hTK2 : TK S2 := by
    rw [← hS2]
    exact a8.us (Or.inl rfl)
  have hUs2 : Us S2 ≤ 199 := by
    rw [← hS2, Us_us ha4, o3, hmc0, cl_0]
    omega
  have hw2 : ∀ (g : Int → Int) (g0 : g 0 = 0) (y : Nat), y ≠ r → Wg g S2 y = Wg g D y := fun g g0 y hy => by
    rw [← hS2, Wg_us ha4, o3, wv_0 g0, wv_mk (by omega) (by omega) (by omega) (by omega), if_neg (Ne.symm hy)]
    omega
  rw [hS2] at b3 hF2
  have hS2a : S2 (363 + a) = 0 := by rw [← hS2, us_s]
  have hS2j : ∀ j, j < 363 → S2 j = τ 1 j := fun j hj => by
    rw [← hS2, us_n (by omega)]
    exact hD0 j hj
  -- what is left of the row
  have hrest : ∀ z, z < 400 → z ≠ b → S2 (363 + z) ≠ 0 → rwo (S2 (363 + z)) ≠ r := fun z z1 z2 z3 z4 => by
    rcases hF2.kindrow z1 hr30 z3 z4 with ⟨hwr, -⟩ | hE
    · exact hwr.2 rfl
    · exact z2 (by have := hE.1; omega)
  have hnote : b ≠ a → S2 (363 + b) = mk 3 r 0 0 := fun hne => by
    rw [← hS2, us_n (by omega)]
    have := o6 (by omega)
    rw [hb, Int.toNat_natCast] at this
    exact this
  have hwr : ∀ (g : Int → Int) (g0 : g 0 = 0), Wg g S2 r = wv g (S2 (363 + b)) r := fun g g0 => Wg_one g0 hb4 hrest
  have e10 : τ1 0 10 = len := by rw [d2.2 10 (by omega)]; exact h10
  have c1 : ∀ c, c ≠ 0 → c ≠ 1 → c ≠ 3 → c ≠ 9 → τ1 c = τ c := d2.1
  obtain ⟨τ2, hτ2⟩ : ∃ τ2, up2 τ1 1 (363 + a) 0 = τ2 := ⟨_, rfl⟩
  have t21 : τ2 1 = S2 := by rw [← hτ2, up2_row, d3, hS2]
  have t2c : ∀ c, c ≠ 1 → τ2 c = τ1 c := fun c hc => by rw [← hτ2, up2_ne hc]
  have hmd := mk_dec (k := 1) (r := (r : Int)) (n := 0) (l := hl) (by omega) (by omega) (by omega) (by omega)
  have hmc := mk_cl1 (r := (r : Int)) (n := 0) (l := hl) (by omega) (by omega) (by omega)
  have hT2i : ∀ j, T2 ir j = T ir j := fun j => by rw [b4 ir (Ne.symm hqi) hit, a4 ir (Ne.symm hqi) hit]
  have hT2q : ∀ j, j ≠ 3 → T2 q j = T q j := fun j hj => by rw [b5 j hj, a5 j hj]
  have hT2c : ∀ c, c ≠ q → c ≠ t → T2 c = T c := fun c x y => by rw [b4 c x y, a4 c x y]
  have p24 : pt S2 r 4 = a := by
    unfold pt at h4 ⊢
    rw [hS2j _ (by omega), h4, ha]
  have p23 : pt S2 r 3 = b := by
    unfold pt at h3 ⊢
    rw [hS2j _ (by omega), h3, hb]
  -- the end, given where the head comes and what the tables then are
  have fin : ∀ (p n7 : Nat) (T7 τ3 : Blk) (s7 : Nat → Int), p < 400 → s7 (363 + p) = 0 → n7 ≤ n1 + 1 → TT T7 q t s7 n7 → (∀ c, c ≠ q → c ≠ t → T7 c = T2 c) → (∀ j, j ≠ 3 → T7 q j = T2 q j) → (∀ c, c ≠ 1 → τ3 c = τ2 c) → (∀ j, j < 363 → τ3 1 j = S2 j) → (∀ z, z < 400 → us (τ3 1) (363 + p) (mk 1 r 0 hl) (363 + z) = us s7 (363 + p) (mk 1 r 0 hl) (363 + z)) → TK s7 → Us s7 ≤ 200 → (∀ (g : Int → Int), g 0 = 0 → ∀ y : Nat, y ≠ r → Wg g s7 y = Wg g D y) → Wg cl s7 r ≤ 1 → Wg one s7 r ≤ 1 →
      ∃ T' τ', (Option.bind (sw τ3 1 763 (363 + (p : Int)) (mk 1 r 0 hl)) fun σ8 => Option.bind (f_X5_setPart σ8 r 4 p) fun σ9 => Option.bind (f_X5_setText σ9 r) fun σ10 => bd2 (f_X5_putPieces σ10 r) fun r11 σ12 => Option.bind (ckB r11) fun _ => some (r11, σ12)) = some (1, τ') ∧ (Option.bind (g_L_add T7 p 1 r 0 hl t 64 q 4) fun σ8 => Option.bind (sw σ8 ir 28 (4 * (r : Int) + 1) len) fun σ9 => Option.bind (sw σ9 ir 28 (4 * (r : Int) + 3) p) fun σ10 => Option.bind (ck (len - hl)) fun v11 => g_L_write_L304 r q 4 t 64 fu 0 v11 σ10) = some (1, T') ∧ WEnd q t ir r rem n len T T' τ τ' (τ 1) := by
    intro p n7 T7 τ3 s7 hp hp0 hn7 hT7 g1 g2 g3 g4 g5 g6 g7 g8 g9 g10
    obtain ⟨τ5, hτ5⟩ : ∃ τ5, up2 (up2 τ3 1 (363 + p) (mk 1 r 0 hl)) 1 (3 + (12 * r + 4)) p = τ5 := ⟨_, rfl⟩
    have c5 : ∀ c, c ≠ 1 → τ5 c = τ1 c := fun c hc => by rw [← hτ5, up2_ne hc, up2_ne hc, g3 c hc, t2c c hc]
    have s5 : ∀ j, j < 363 → j ≠ 3 + (12 * r + 4) → τ5 1 j = τ 1 j := fun j j1 j2 => by rw [← hτ5, up2_n (by omega), up2_n (by omega), g4 j j1, hS2j j j1]
    have s5p : ∀ z, z < 400 → τ5 1 (363 + z) = us s7 (363 + p) (mk 1 r 0 hl) (363 + z) := fun z hz => by
      rw [← hτ5, up2_n (by omega), up2_row]
      exact g5 z hz
    have e50 : τ5 0 10 = len := by rw [c5 0 (by omega)]; exact e10
    have e58 : τ5 8 = τ 8 := by rw [c5 8 (by omega), c1 8 (by omega) (by omega) (by omega) (by omega)]
    obtain ⟨τ7, f1, f2, f3, f4, f5, f6⟩ := x5_setText (σ := τ5) (r := r) hr30 (by rw [e50]; exact hlen) (fun k hk => by rw [e58]; rw [e50] at hk; exact htold k hk)
    rw [e50] at f4 f6
    have s7p : ∀ z, z < 400 → τ7 1 (363 + z) = us s7 (363 + p) (mk 1 r 0 hl) (363 + z) := fun z hz => (f3 _ (by unfold UT; omega)).trans (s5p z hz)
    have s70 : τ7 1 0 = τ 1 0 := by rw [f3 0 (by unfold UT; omega), s5 0 (by omega) (by omega)]
    have s71 : τ7 1 1 = τ 1 1 := by rw [f3 1 (by unfold UT; omega), s5 1 (by omega) (by omega)]
    have hT7k : TK (τ7 1) := fun z hz => by
      rw [s7p z hz]
      exact g6.us hmd.2.2.2.2.1 z hz
    obtain ⟨n', T', τ', k1, k2, k3, k4, k5, k6, k7, k8, k9, k10, k11, k12⟩ := lw_tail (p := p) (rem := rem) (hl := hl) (T7 := T7) (τ7 := τ7) (s7 := s7) hqt hqi hit hr hS1.2 hlen hT7 hp hp0 hrem (by omega) s7p hT7k (by rw [f2 0 (by omega)]; exact e50) s71 (by unfold hle at hhl ⊢; rw [s70]; exact hhl) hhr (by rw [g2 1 (by omega), hT2q 1 (by omega)]; exact hS1.1) g7
    have eR : ∀ j, j < 363 → τ' 1 j = τ7 1 j := fun j hj => k6.2 j hj
    refine ⟨T', τ', ?_, k2, ⟨n', k3, by omega⟩, k5, ⟨fun c z1 z2 z3 => ?_, fun j hj => ?_, fun j j0 j1 j2 j3 => ?_⟩, ⟨?_, ?_, fun k hk => ?_⟩, fun c z1 z2 z3 => ?_, fun j hj => ?_, ⟨k9.1, ?_, ?_, fun j j1 j2 j3 => ?_⟩, fun x hx => ?_, by omega, by omega⟩
    · rw [sw_t (363 + p) (by omega) (by omega), bs, x5_setPart r 4 rfl (by omega) hr30 (by omega), bs, hτ5, f1, bs, k1, bd2_t, ckB_t (Or.inr rfl), bs]
    · by_cases e3 : c = 3
      · rw [k6.1 c z1, f2 c z1, c5 c z1, e3, d4]
      · rw [k6.1 c z1, f2 c z1, c5 c z1, c1 c z3 z1 e3 z2]
    · rw [k6.1 0 (by omega), f2 0 (by omega), c5 0 (by omega), d2.2 j hj]
    · rw [eR j j0, f3 j j1, s5 j j0 j3]
    · unfold pt
      rw [eR _ (by omega)]
      exact f4
    · intro m hm
      unfold pt
      rw [eR _ (by omega)]
      exact f5 m hm
    · have e : lt (τ' 1) r k = lt (τ7 1) r k := by
        unfold lt pt
        rw [eR _ (by omega)]
      rw [e, f6 k hk, e58]
    · rw [k7 c z1 z2 z3, g1 c z1 z2, hT2c c z1 z2]
    · rw [k8 j hj, g2 j hj, hT2q j hj]
    · rw [k9.2.2 _ (by omega) (by omega), g1 ir (Ne.symm hqi) hit, hT2i, hT2, ← h3]
      unfold pt
      rw [eR _ (by omega), f3 _ (by unfold UT; omega), s5 _ (by omega) (by omega)]
    · rw [k9.2.1]
      unfold pt
      rw [eR _ (by omega), f3 _ (by unfold UT; omega), ← hτ5, up2_s]
    · rw [k9.2.2 j j1 j3, g1 ir (Ne.symm hqi) hit, hT2i]
    · obtain ⟨x1, x2⟩ := k10 x hx
      rw [x1, x2, g8 cl cl_0 x hx, g8 one one_0 x hx]
      exact a6 x hx
  -- the reference, up to the head's place
  have ref : ∀ R : Option (Int × Blk), (bd2 (f_X5_placeForHead τ2 r (mk 1 r 0 hl)) fun r6 σ7 => if r6 ≠ (-6) then Option.bind (sw σ7 1 763 (363 + r6) (mk 1 r 0 hl)) fun σ8 => Option.bind (f_X5_setPart σ8 r 4 r6) fun σ9 => Option.bind (f_X5_setText σ9 r) fun σ10 => bd2 (f_X5_putPieces σ10 r) fun r11 σ12 => Option.bind (ckB r11) fun _ => some (r11, σ12) else some (0, σ7)) = R → f_X5_writeAgain τ r = R := fun R hR => by
    unfold f_X5_writeAgain
    rw [x5_headLetters h10, hhl, bs, x5_thing (by omega) (by omega) (by omega) (by omega), bs, d1, bs, x5_part r 4 rfl (by omega) hr30 (by omega), bs, show pt (τ1 1) r 4 = (a : Int) by rw [d3]; unfold pt at h4 ⊢; rw [hD0 _ (by omega), h4, ha], sw_t (363 + a) (by omega) (by omega), bs, hτ2]
    exact hR
  have sel : ∀ K : Int → Option (Int × Blk), (if τ 1 0 ≤ len then Option.bind (some (τ 1 0)) K else K len) = K hl := fun K => by
    unfold hle at hhl
    by_cases e : τ 1 0 ≤ len
    · rw [if_pos e] at hhl
      rw [if_pos e, bs, hhl]
    · rw [if_neg e] at hhl
      rw [if_neg e, hhl]
  have ea40 : ((a : Int) / 40) = ((a / 40 : Nat) : Int) := by omega
  have eb40 : ((b : Int) / 40) = ((b / 40 : Nat) : Int) := by omega
  have hfr2 : ∀ p : Nat, p < 10 → f_X5_freeOf τ2 p = some (fr S2 p) := fun p hp => by
    rw [x5_free (by rw [t21]; exact hTK2) hp, t21]
  have hT22 : T ir (4 * r + 2) = b := by rw [hT2, hb]
  have hne6 : ∀ p : Nat, (p : Int) ≠ -6 := fun p => by omega
  by_cases eA : fr S2 (a / 40) < 2 + hl
  · by_cases eB : a = b
    · -- a note is left
      have z0 : S2 (363 + b) = 0 := by rw [← eB]; exact hS2a
      obtain ⟨T3, e1, e2, e3, e4⟩ := b3.add hqt (by omega) hb4 (k := 3) (r := (r : Int)) (m := 0) (l := 0) (by omega) (by omega) (by omega) (by omega) z0
      have m3 := mk_dec (k := 3) (r := (r : Int)) (n := 0) (l := 0) (by omega) (by omega) (by omega) (by omega)
      have m3c := mk_cl3 (r := (r : Int)) (n := 0) (l := 0) (by omega) (by omega) (by omega)
      obtain ⟨S3, hS3⟩ : ∃ S3, us S2 (363 + b) (mk 3 r 0 0) = S3 := ⟨_, rfl⟩
      rw [hS3] at e2
      have hTK3 : TK S3 := by rw [← hS3]; exact hTK2.us m3.2.2.2.2.1
      have hU3 : Us S3 ≤ 200 := by
        rw [← hS3, Us_us hb4, z0, cl_0, m3c]
        omega
      have hw3 : ∀ (g : Int → Int) (g0 : g 0 = 0) (y : Nat), Wg g S3 y = Wg g S2 y + if r = y then g (mk 3 r 0 0) else 0 := fun g g0 y => by
        rw [← hS3, Wg_us hb4, z0, wv_0 g0, wv_mk (by omega) (by omega) (by omega) (by omega)]
        omega
      have hpg : pgT S3 (2 + hl) < 10 := room_ok (by omega)
      obtain ⟨p, hp⟩ : ∃ p, spT S3 (2 + hl) = p := ⟨_, rfl⟩
      obtain ⟨p1, p2, -⟩ := spT_lt hTK3 (c := 2 + hl) (by omega) hpg
      have hrm := l_room e2 hTK3 (c := 2 + hl) (by omega)
      have hpl := x5_placed (σ := up2 τ2 1 (363 + b) (mk 3 r 0 0)) (by rw [up2_row, t21, hS3]; exact hTK3) hmd.2.2.2.2.1 hmd.2.2.2.2.2
      rw [hmc, up2_row, t21, hS3, if_pos hpg] at hpl
      rw [if_pos hpg] at hrm
      rw [hp] at p1 p2 hrm hpl
      obtain ⟨T', τ', k1, k2, k3⟩ := fin p (n2 + 1) T3 (up2 (up2 τ2 1 (363 + b) (mk 3 r 0 0)) 1 (363 + p) (mk 1 r 0 hl)) S3 p1 p2 (by omega) e2 e3 e4 (fun c hc => by rw [up2_ne hc, up2_ne hc]) (fun j hj => by rw [up2_n (by omega), up2_n (by omega), t21]) (fun z hz => by rw [up2_row, up2_row, t21, hS3, us_us]) hTK3 hU3 (fun g g0 y hy => by rw [hw3 g g0 y, if_neg (Ne.symm hy), hw2 g g0 y hy]; omega) (by rw [hw3 cl cl_0 r, if_pos rfl, m3c, hwr cl cl_0, z0, wv_0 cl_0]; omega) (by rw [hw3 one one_0 r, if_pos rfl, one_mk (by omega) (by omega) (by omega) (by omega), hwr one one_0, z0, wv_0 one_0]; omega)
      refine ⟨T', τ', ?_, ?_, k3⟩
      · refine ref _ ?_
        unfold f_X5_placeForHead
        rw [x5_part r 4 rfl (by omega) hr30 (by omega), bs, x5_part r 3 rfl (by omega) hr30 (by omega), bs, t21, p24, p23, dv_t (a := (a : Int)) (by omega), bs, ea40, hfr2 _ (by omega), bs, x5_cells hmd.2.2.2.2.1, bs, hmc]
        rw [if_pos eA, jp_t, if_neg (show ¬ (a : Int) ≠ b by omega), x5_thing (by omega) (by omega) (by omega) (by omega), bs, sw_t (363 + b) (by omega) (by omega), bs]
        dsimp only
        rw [hpl, bd2_t, bd2_t, if_pos (hne6 p)]
        exact k1
      · unfold g_L_write
        simp only [eq_self, if_true]
        rw [ld_t 0 (by omega) (by omega), bs, hS0.1, jp_t, sel]
        dsimp only
        rw [ck_t (a := 4 * (r : Int)) (by omega), bs, jp_t, jp_t, a1]
        dsimp only
        rw [ld_t 3 (by omega) (by omega), bs, a2.1.1, i3, bs, b2, bs, ld_t (4 * r + 3) (by omega) (by omega), bs, hT2i, hT3, ha, dv_t (a := (a : Int)) (by omega), bs, ld_t 3 (by omega) (by omega), bs, b3.1.1, ea40, l_free b3 hTK2 (by omega), bs, ck_t (a := 2 + hl) (by omega), bs]
        rw [if_pos eA, bs, ld_t (4 * r + 2) (by omega) (by omega), bs, hT2i, hT22, if_neg (show ¬ (a : Int) ≠ b by omega), bs, e1, bs, ld_t 3 (by omega) (by omega), bs, e2.1.1, bs, hrm, bs, if_pos (by omega)]
        exact k2
    · by_cases eC : fr S2 (b / 40) < 1 + hl
      · -- a page elsewhere
        have hpg : pgT S2 (2 + hl) < 10 := room_ok (by omega)
        obtain ⟨p, hp⟩ : ∃ p, spT S2 (2 + hl) = p := ⟨_, rfl⟩
        obtain ⟨p1, p2, -⟩ := spT_lt hTK2 (c := 2 + hl) (by omega) hpg
        have hrm := l_room b3 hTK2 (c := 2 + hl) (by omega)
        have hpl := x5_placed (σ := τ2) (by rw [t21]; exact hTK2) hmd.2.2.2.2.1 hmd.2.2.2.2.2
        rw [hmc, t21, if_pos hpg] at hpl
        rw [if_pos hpg] at hrm
        rw [hp] at p1 p2 hrm hpl
        have hno := hnote (by omega)
        have m3c := mk_cl3 (r := (r : Int)) (n := 0) (l := 0) (by omega) (by omega) (by omega)
        obtain ⟨T', τ', k1, k2, k3⟩ := fin p n2 T2 (up2 τ2 1 (363 + p) (mk 1 r 0 hl)) S2 p1 p2 (by omega) b3 (fun _ _ _ => rfl) (fun _ _ => rfl) (fun c hc => up2_ne hc) (fun j hj => by rw [up2_n (by omega), t21]) (fun z hz => by rw [up2_row, t21, us_us]) hTK2 (by omega) hw2 (by rw [hwr cl cl_0, hno, wv_mk (by omega) (by omega) (by omega) (by omega), if_pos rfl, m3c]; omega) (by rw [hwr one one_0, hno, wv_mk (by omega) (by omega) (by omega) (by omega), if_pos rfl, one_mk (by omega) (by omega) (by omega) (by omega)]; omega)
        refine ⟨T', τ', ?_, ?_, k3⟩
        · refine ref _ ?_
          unfold f_X5_placeForHead
          rw [x5_part r 4 rfl (by omega) hr30 (by omega), bs, x5_part r 3 rfl (by omega) hr30 (by omega), bs, t21, p24, p23, dv_t (a := (a : Int)) (by omega), bs, ea40, hfr2 _ (by omega), bs, x5_cells hmd.2.2.2.2.1, bs, hmc]
          rw [if_pos eA, jp_t, if_pos (show (a : Int) ≠ b by omega), dv_t (a := (b : Int)) (by omega), bs, eb40, hfr2 _ (by omega), bs, bs, ck_t (a := fr S2 (b / 40) + 1) (by have := fr_rng hTK2 (p := b / 40) (by omega); omega), bs, if_pos (by omega)]
          dsimp only
          rw [hpl, bd2_t, bd2_t, if_pos (hne6 p)]
          exact k1
        · unfold g_L_write
          simp only [eq_self, if_true]
          rw [ld_t 0 (by omega) (by omega), bs, hS0.1, jp_t, sel]
          dsimp only
          rw [ck_t (a := 4 * (r : Int)) (by omega), bs, jp_t, jp_t, a1]
          dsimp only
          rw [ld_t 3 (by omega) (by omega), bs, a2.1.1, i3, bs, b2, bs, ld_t (4 * r + 3) (by omega) (by omega), bs, hT2i, hT3, ha, dv_t (a := (a : Int)) (by omega), bs, ld_t 3 (by omega) (by omega), bs, b3.1.1, ea40, l_free b3 hTK2 (by omega), bs, ck_t (a := 2 + hl) (by omega), bs]
          rw [if_pos eA, bs, ld_t (4 * r + 2) (by omega) (by omega), bs, hT2i, hT22, if_pos (show (a : Int) ≠ b by omega), bs, dv_t (a := (b : Int)) (by omega), bs, bs, eb40, l_free b3 hTK2 (by omega), bs, ck_t (a := 1 + hl) (by omega), bs, if_pos eC, bs, bs, hrm, bs, if_pos (by omega)]
          exact k2
      · -- home again: the note goes
        have hno := hnote (by omega)
        have m3 := mk_dec (k := 3) (r := (r : Int)) (n := 0) (l := 0) (by omega) (by omega) (by omega) (by omega)
        have m3c := mk_cl3 (r := (r : Int)) (n := 0) (l := 0) (by omega) (by omega) (by omega)
        obtain ⟨j1, j2, j3, j4⟩ := find_at b3 hb4 hno (by omega) (by omega) (by omega) (by omega) (fun z z1 z2 z3 z4 z5 => Classical.byContradiction fun z6 => hrest z z1 z6 z2 z4)
        obtain ⟨n3, T3, f1, f2, f3, f4, f5, -⟩ := b3.drop hqt j2 j4
        obtain ⟨S3, hS3⟩ : ∃ S3, us S2 (363 + b) 0 = S3 := ⟨_, rfl⟩
        rw [hS3] at f3
        have hTK3 : TK S3 := by rw [← hS3]; exact hTK2.us (Or.inl rfl)
        have hw3 : ∀ (g : Int → Int) (g0 : g 0 = 0) (y : Nat), Wg g S3 y = Wg g S2 y - if r = y then g (mk 3 r 0 0) else 0 := fun g g0 y => by
          rw [← hS3, Wg_us hb4, hno, wv_0 g0, wv_mk (by omega) (by omega) (by omega) (by omega)]
          omega
        obtain ⟨T', τ', k1, k2, k3⟩ := fin b n3 T3 τ2 S3 hb4 (by rw [← hS3, us_s]) (by omega) f3 f4 f5 (fun _ _ => rfl) (fun j hj => by rw [t21]) (fun z hz => by rw [t21, ← hS3, us_us]) hTK3 (by rw [← hS3, Us_us hb4, hno, cl_0, m3c]; omega) (fun g g0 y hy => by rw [hw3 g g0 y, if_neg (Ne.symm hy), hw2 g g0 y hy]; omega) (by rw [hw3 cl cl_0 r, if_pos rfl, hwr cl cl_0, hno, wv_mk (by omega) (by omega) (by omega) (by omega), if_pos rfl, m3c]; omega) (by rw [hw3 one one_0 r, if_pos rfl, hwr one one_0, hno, wv_mk (by omega) (by omega) (by omega) (by omega), if_pos rfl]; omega)
        have hT3i : ∀ j, T3 ir j = T ir j := fun j => by rw [f4 ir (Ne.symm hqi) hit, hT2i]
        refine ⟨T', τ', ?_, ?_, k3⟩
        · refine ref _ ?_
          unfold f_X5_placeForHead
          rw [x5_part r 4 rfl (by omega) hr30 (by omega), bs, x5_part r 3 rfl (by omega) hr30 (by omega), bs, t21, p24, p23, dv_t (a := (a : Int)) (by omega), bs, ea40, hfr2 _ (by omega), bs, x5_cells hmd.2.2.2.2.1, bs, hmc]
          rw [if_pos eA, jp_t, if_pos (show (a : Int) ≠ b by omega), dv_t (a := (b : Int)) (by omega), bs, eb40, hfr2 _ (by omega), bs, bs, ck_t (a := fr S2 (b / 40) + 1) (by have := fr_rng hTK2 (p := b / 40) (by omega); omega), bs, if_neg (by omega), bd2_t, if_pos (hne6 b)]
          exact k1
        · unfold g_L_write
          simp only [eq_self, if_true]
          rw [ld_t 0 (by omega) (by omega), bs, hS0.1, jp_t, sel]
          dsimp only
          rw [ck_t (a := 4 * (r : Int)) (by omega), bs, jp_t, jp_t, a1]
          dsimp only
          rw [ld_t 3 (by omega) (by omega), bs, a2.1.1, i3, bs, b2, bs, ld_t (4 * r + 3) (by omega) (by omega), bs, hT2i, hT3, ha, dv_t (a := (a : Int)) (by omega), bs, ld_t 3 (by omega) (by omega), bs, b3.1.1, ea40, l_free b3 hTK2 (by omega), bs, ck_t (a := 2 + hl) (by omega), bs]
          rw [if_pos eA, bs, ld_t (4 * r + 2) (by omega) (by omega), bs, hT2i, hT22, if_pos (show (a : Int) ≠ b by omega), bs, dv_t (a := (b : Int)) (by omega), bs, bs, eb40, l_free b3 hTK2 (by omega), bs, ck_t (a := 1 + hl) (by omega), bs, if_neg eC, bs, j3, bs, f2, bs, ld_t (4 * r + 2) (by omega) (by omega), bs, hT3i, hT22, if_pos (by omega)]
          exact k2
  · -- where it was
    have hz : Wg cl S2 r ≤ 1 ∧ Wg one S2 r ≤ 1 := by
      rw [hwr cl cl_0, hwr one one_0]
      by_cases e : b = a
      · rw [e, hS2a, wv_0 cl_0, wv_0 one_0]
        omega
      · rw [hnote e, wv_mk (by omega) (by omega) (by omega) (by omega), wv_mk (by omega) (by omega) (by omega) (by omega), if_pos rfl, if_pos rfl, mk_cl3 (by omega) (by omega) (by omega), one_mk (by omega) (by omega) (by omega) (by omega)]
        omega
    obtain ⟨T', τ', k1, k2, k3⟩ := fin a n2 T2 τ2 S2 ha4 hS2a (by omega) b3 (fun _ _ _ => rfl) (fun _ _ => rfl) (fun _ _ => rfl) (fun j hj => by rw [t21]) (fun z hz => by rw [t21]) hTK2 (by omega) hw2 hz.1 hz.2
    refine ⟨T', τ', ?_, ?_, k3⟩
    · refine ref _ ?_
      unfold f_X5_placeForHead
      rw [x5_part r 4 rfl (by omega) hr30 (by omega), bs, x5_part r 3 rfl (by omega) hr30 (by omega), bs, t21, p24, p23, dv_t (a := (a : Int)) (by omega), bs, ea40, hfr2 _ (by omega), bs, x5_cells hmd.2.2.2.2.1, bs, hmc]
      rw [if_neg eA, bd2_t, if_pos (hne6 a)]
      exact k1
    · unfold g_L_write
      simp only [eq_self, if_true]
      rw [ld_t 0 (by omega) (by omega), bs, hS0.1, jp_t, sel]
      dsimp only
      rw [ck_t (a := 4 * (r : Int)) (by omega), bs, jp_t, jp_t, a1]
      dsimp only
      rw [ld_t 3 (by omega) (by omega), bs, a2.1.1, i3, bs, b2, bs, ld_t (4 * r + 3) (by omega) (by omega), bs, hT2i, hT3, ha, dv_t (a := (a : Int)) (by omega), bs, ld_t 3 (by omega) (by omega), bs, b3.1.1, ea40, l_free b3 hTK2 (by omega), bs, ck_t (a := 2 + hl) (by omega), bs]
      rw [if_neg eA, bs, if_pos (by omega)]
      exact k2
