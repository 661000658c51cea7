/-! PURE: the head of a row is laid again -/
theorem us_us {s : Nat → Int} {j : Nat} {a b : Int} : us (us s j a) j b = us s j b := by
  funext i
  unfold us
  split <;> rfl
def hle (s : Nat → Int) (len : Int) : Int := if s 0 ≤ len then s 0 else len
theorem hlen_rng {s : Nat → Int} {len : Int} (h : 0 ≤ s 0 ∧ s 0 ≤ 16) (hl : 0 ≤ len) : 0 ≤ hle s len ∧ hle s len ≤ 16 ∧ hle s len ≤ len := by
  unfold hle
  split <;> omega
theorem x0_headLetters {β : Blk} {s : Nat → Int} {r : Nat} {len : Int} (hr : r < 30) (h8 : β 8 r = len) (h0 : β 0 0 = s 0) : f_X0_headLetters β r = some (hle s len) := by
  unfold f_X0_headLetters hle
  rw [ld_t r rfl hr, bs, h8, h0]
  unfold imin
  congr 1
  split <;> split <;> omega
theorem x0_headCells {β : Blk} {s : Nat → Int} {r : Nat} {len : Int} (hr : r < 30) (h8 : β 8 r = len) (h0 : β 0 0 = s 0) (h : 0 ≤ s 0 ∧ s 0 ≤ 16) (hl : 0 ≤ len) : f_X0_headCells β r = some (2 + hle s len) := by
  have := hlen_rng h hl
  unfold f_X0_headCells
  rw [x0_headLetters hr h8 h0, bs, ck_t (by omega), bs]
theorem x5_headLetters {τ : Blk} {len : Int} (h10 : τ 0 10 = len) : f_X5_headLetters τ = some (hle (τ 1) len) := by
  unfold f_X5_headLetters hle
  rw [ld_t 0 (by omega) (by omega), bs, bs, h10]
  split <;> rfl
theorem head_again {b t : Blk} {w : Nat → Prop} {r : Nat} {len : Int} (hr : r < 30) (hw : ¬ w r) (hP : PG b (t 1) (b 7)) (hF : FI (t 1) w (b 10) (b 9) (us (b 11) r 0) (PP b) (fun x => b 9 r = x ∧ b 9 r ≠ b 10 r)) (ha0 : 0 ≤ b 10 r ∧ b 10 r < 400) (hh0 : 0 ≤ b 9 r ∧ b 9 r < 400) (hz : t 1 (363 + (b 10 r).toNat) = 0) (hfr : 2 ≤ fr (t 1) ((b 10 r).toNat / 40)) (hnote : b 9 r ≠ b 10 r → t 1 (363 + (b 9 r).toNat) = mk 3 r 0 0) (h3 : pt (t 1) r 3 = b 9 r) (h4 : pt (t 1) r 4 = b 10 r) (h8 : b 8 r = len) (hlen : 0 ≤ len ∧ len ≤ 40) (hS0 : b 0 0 = t 1 0 ∧ 0 ≤ t 1 0 ∧ t 1 0 ≤ 16) :
    (∃ (q : Nat) (b' t' : Blk), f_X0_layHeadAgain b r = some ((q : Int), b') ∧ f_X5_placeForHead t r (mk 1 r 0 (hle (t 1) len)) = some ((q : Int), t') ∧ q < 400 ∧ AgB b b' ∧ Th t t' ∧ PG b' (us (t' 1) (363 + q) (mk 1 r 0 (hle (t 1) len))) (b 7) ∧ FI (us (t' 1) (363 + q) (mk 1 r 0 (hle (t 1) len))) (fun x => w x ∨ x = r) (us (b 10) r q) (b 9) (us (b 11) r 0) (PP b) (fun _ => False)) ∨ (∃ b' t', f_X0_layHeadAgain b r = some (-1, b') ∧ f_X5_placeForHead t r (mk 1 r 0 (hle (t 1) len)) = some (-6, t') ∧ Th t t') := by
  have hlr := hlen_rng hS0.2 hlen.1
  have hHC := x0_headCells hr h8 hS0.1 hS0.2 hlen.1
  generalize hle (t 1) len = L at hlr hHC ⊢
  have hm := mk_dec (k := 1) (r := (r : Int)) (n := 0) (l := L) (by omega) (by omega) (by omega) (by omega)
  have hmc := mk_cl1 (r := (r : Int)) (n := 0) (l := L) (by omega) (by omega) (by omega)
  have hfh : ∀ (s : Nat → Int) (q : Nat), FI s w (b 10) (b 9) (us (b 11) r 0) (PP b) (fun x => b 9 r = x ∧ b 9 r ≠ q) → q < 400 → s (363 + q) = 0 → (b 9 r ≠ q → s (363 + (b 9 r).toNat) = mk 3 r 0 0) → FI (us s (363 + q) (mk 1 r 0 L)) (fun x => w x ∨ x = r) (us (b 10) r q) (b 9) (us (b 11) r 0) (PP b) (fun _ => False) := by
    intro s q h1 h2 h5 h6
    have h7 := h1.head (l := L) hr hw h2 hh0 h5 (by omega) h6
    rw [us_us] at h7
    exact h7
  generalize hT : mk 1 (r : Int) 0 L = T at hm hmc hfh ⊢
  obtain ⟨a, ha⟩ : ∃ a : Nat, b 10 r = a := ⟨(b 10 r).toNat, by omega⟩
  obtain ⟨h, hh⟩ : ∃ h : Nat, b 9 r = h := ⟨(b 9 r).toNat, by omega⟩
  rw [ha, Int.toNat_natCast] at hz hfr
  rw [hh, Int.toNat_natCast] at hnote
  have hfa := hP.f (p := a / 40) (by omega)
  have hfo := hP.f (p := h / 40) (by omega)
  have hpl := x3_place hP hm.2.2.2.2.1 hm.2.2.2.2.2
  have hpl5 := x5_placed hP.1 hm.2.2.2.2.1 hm.2.2.2.2.2
  rw [hm.1, hm.2.1, hmc, Int.toNat_natCast] at hpl
  rw [hmc] at hpl5
  unfold f_X0_layHeadAgain f_X5_placeForHead
  rw [ld_t r rfl hr, bs, ld_t r rfl hr, bs, ld_t r rfl hr, bs, hHC, bs, ha, hh, dv_t (a := (a : Int)) (by omega), bs, show ((a : Int) / 40) = ((a / 40 : Nat) : Int) by omega, x3_hasRoom hP (by omega), bs]
  rw [x5_part r 4 rfl (by omega) hr (by omega), bs, x5_part r 3 rfl (by omega) hr (by omega), bs, h4, h3, ha, hh, dv_t (a := (a : Int)) (by omega), bs, show ((a : Int) / 40) = ((a / 40 : Nat) : Int) by omega, x5_free hP.1 (by omega), bs, x5_cells hm.2.2.2.2.1, bs, hmc]
  by_cases eA : fr (t 1) (a / 40) < 2 + L
  · rw [if_pos eA, if_pos rfl, if_pos eA]
    dsimp only [jp]
    by_cases eM : (a : Int) ≠ h
    · rw [if_pos eM, if_pos eM, dv_t (a := (h : Int)) (by omega), ck_t (a := 2 + L - 1) (by omega), show ((h : Int) / 40) = ((h / 40 : Nat) : Int) by omega]
      simp only [bs]
      rw [x3_hasRoom hP (by omega), x5_free hP.1 (by omega)]
      simp only [bs]
      rw [ck_t (a := fr (t 1) (h / 40) + 1) (by omega)]
      simp only [bs]
      have hno := hnote (by omega)
      have hk3 := mk_dec (k := 3) (r := (r : Int)) (n := 0) (l := 0) (by omega) (by omega) (by omega) (by omega)
      have hc3 := mk_cl3 (r := (r : Int)) (n := 0) (l := 0) (by omega) (by omega) (by omega)
      by_cases eH : fr (t 1) (h / 40) < 2 + L - 1
      · rw [if_pos eH, if_pos rfl, if_pos (by omega), hpl, hpl5]
        by_cases ep : pgT (t 1) (2 + L) < 10
        · have hsp := spT_lt hP.1 (c := 2 + L) (by omega) ep
          have hok := pgT_ok ep
          generalize hq : spT (t 1) (2 + L) = q at hsp
          rw [if_pos ep, if_pos ep, bd2_t, bd2_t]
          left
          have hoc := hP.occ (q := q) (t := T) hsp.1 hsp.2.1 hm.2.2.2.2.1 (by rw [hmc, hsp.2.2]; exact hok)
          rw [hm.1, hm.2.1, hmc, Int.toNat_natCast] at hoc
          have hne : h ≠ q := fun z => by
            rw [z] at hno
            exact hk3.2.2.2.2.2 (by rw [← hno]; exact hsp.2.1)
          refine ⟨q, _, _, rfl, rfl, hsp.1, occB_ag, Th.up, ?_, ?_⟩
          · rw [up2_row, us_us]; exact hoc
          · rw [up2_row, us_us]
            exact hfh _ q (hF.toE (fun x _ hx => ⟨hx.1, by omega⟩)) hsp.1 hsp.2.1 (fun _ => by rw [hh, Int.toNat_natCast]; exact hno)
        · rw [if_neg ep, if_neg ep, bd2_t, bd2_t]
          exact Or.inr ⟨_, _, rfl, rfl, Th.rf⟩
      · rw [if_neg eH, if_neg (by decide), if_neg (by omega)]
        left
        have hv := hP.x3v (q := h) (by omega)
        have hP2 := hP.vac (q := h) (by omega)
        have hfr2 := fr_us (s := t 1) (q := h) (t := 0) (by omega) (h / 40) (by omega)
        rw [if_pos rfl, hno, hc3, cl_0] at hfr2
        have hoc := hP2.occ (q := h) (t := T) (by omega) us_s hm.2.2.2.2.1 (by rw [hmc, hfr2]; omega)
        rw [hm.1, hm.2.1, hmc, Int.toNat_natCast] at hoc
        rw [hv, bs, hP2.x3o (by omega) (by omega), bs]
        refine ⟨h, _, _, rfl, rfl, by omega, AgB.tr vacB_ag occB_ag, Th.rf, ?_, ?_⟩
        · rw [us_us] at hoc; exact hoc
        · have hE := hF.setE (j := h) (t := 0) (E' := fun x => b 9 r = x ∧ b 9 r ≠ (h : Int)) (by omega) (Or.inr ⟨⟨hh, by omega⟩, fun r' hr' hw' hi => ?_⟩) (fun x _ hx he => absurd (show x = h by omega) hx) (fun z => absurd rfl z)
          · have h9 := hfh _ h hE (by omega) us_s (fun z => absurd hh z)
            rw [us_us] at h9
            exact h9
          · have h9 := hi.row hr' (hF.own hr' hw').2.2.2.2.1.2
            rw [hno, hk3.2.1] at h9
            have e9 : r' = r := by omega
            exact hw (e9 ▸ hw')
    · have eah : a = h := by omega
      subst eah
      have hk3 := mk_dec (k := 3) (r := (r : Int)) (n := 0) (l := 0) (by omega) (by omega) (by omega) (by omega)
      have hc3 := mk_cl3 (r := (r : Int)) (n := 0) (l := 0) (by omega) (by omega) (by omega)
      have hoc := hP.occ (q := a) (t := mk 3 r 0 0) (by omega) hz hk3.2.2.2.2.1 (by rw [hc3]; omega)
      rw [hk3.1, hk3.2.1, hc3, Int.toNat_natCast] at hoc
      have hpl2 := x3_place hoc hm.2.2.2.2.1 hm.2.2.2.2.2
      have hpl52 := x5_placed (σ := up2 t 1 (363 + a) (mk 3 r 0 0)) (by rw [up2_row]; exact hoc.1) hm.2.2.2.2.1 hm.2.2.2.2.2
      rw [hm.1, hm.2.1, hmc, Int.toNat_natCast] at hpl2
      rw [hmc, up2_row] at hpl52
      rw [if_neg eM, if_neg eM, hP.x3o (by omega) (by omega), bs, hpl2, x5_thing (by omega) (by omega) (by omega) (by omega), bs, sw_t (363 + a) (by omega) (by omega), bs, hpl52]
      generalize hs' : us (t 1) (363 + a) (mk 3 r 0 0) = s' at *
      by_cases ep : pgT s' (2 + L) < 10
      · have hsp := spT_lt hoc.1 (c := 2 + L) (by omega) ep
        have hok := pgT_ok ep
        generalize hq : spT s' (2 + L) = q at hsp
        rw [if_pos ep, if_pos ep, bd2_t, bd2_t]
        left
        have hoc2 := hoc.occ (q := q) (t := T) hsp.1 hsp.2.1 hm.2.2.2.2.1 (by rw [hmc, hsp.2.2]; exact hok)
        rw [hm.1, hm.2.1, hmc, Int.toNat_natCast] at hoc2
        have hsa : s' (363 + a) = mk 3 r 0 0 := by rw [← hs']; exact us_s
        have hne : a ≠ q := fun z => by
          rw [z] at hsa
          exact hk3.2.2.2.2.2 (by rw [← hsa]; exact hsp.2.1)
        refine ⟨q, _, _, rfl, rfl, hsp.1, AgB.tr occB_ag occB_ag, Th.tr Th.up Th.up, ?_, ?_⟩
        · rw [up2_row, up2_row, hs', us_us]; exact hoc2
        · rw [up2_row, up2_row, hs', us_us]
          have hE := hF.setE (j := a) (t := mk 3 r 0 0) (E' := fun x => b 9 r = x ∧ b 9 r ≠ (q : Int)) (by omega) (Or.inl hz) (fun x _ hx he => absurd (show x = a by omega) hx) (fun z => ⟨hh, by omega⟩)
          rw [hs'] at hE
          exact hfh _ q hE hsp.1 hsp.2.1 (fun _ => by rw [hh, Int.toNat_natCast]; exact hsa)
      · rw [if_neg ep, if_neg ep, bd2_t, bd2_t]
        exact Or.inr ⟨_, _, rfl, rfl, Th.up⟩
  · rw [if_neg eA, if_neg (by decide), if_neg eA]
    left
    have hoc := hP.occ (q := a) (t := T) (by omega) hz hm.2.2.2.2.1 (by rw [hmc]; omega)
    rw [hm.1, hm.2.1, hmc, Int.toNat_natCast] at hoc
    rw [hP.x3o (by omega) (by omega), bs]
    refine ⟨a, _, _, rfl, rfl, by omega, occB_ag, Th.rf, hoc, ?_⟩
    exact hfh _ a (by rw [← ha]; exact hF) (by omega) hz (fun z => by rw [hh, Int.toNat_natCast]; exact hnote (by omega))
