/-! PURE: a row is written, new or again -/
theorem pt_c {s s' : Nat → Int} (h : ∀ j, j < 363 → s' j = s j) {r k : Nat} (hr : r < 30) (hk : k < 12) : pt s' r k = pt s r k := h _ (by omega)
theorem lt_c {s s' : Nat → Int} {r k : Nat} (h : ∀ m, m < 7 → pt s' r (5 + m) = pt s r (5 + m)) (hk : k < 42) : lt s' r k = lt s r k := by
  unfold lt
  rw [h _ (by omega)]
def TXT (r : Nat) (t τ' : Blk) : Prop := pt (τ' 1) r 2 = t 0 10 ∧ LTR (τ' 1) r ∧ ∀ k : Nat, (k : Int) < t 0 10 → lt (τ' 1) r k = t 8 k
theorem fin_row {b t : Blk} {w : Nat → Prop} {len : Int} {r : Nat} (hr : r < 30) (hw : w r) (hP : PG b (t 1) (b 7)) (hF : FI (t 1) w (b 10) (b 9) (us (b 11) r 0) (PP b) (fun _ => False)) (h8 : b 8 r = len) (h10 : t 0 10 = len) (hl : 0 ≤ len ∧ len ≤ 40) (ht : ∀ k : Nat, (k : Int) < len → 0 ≤ t 8 k ∧ t 8 k < 32) (hS0 : b 0 0 = t 1 0 ∧ 0 ≤ t 1 0 ∧ t 1 0 ≤ 16) (hS1 : b 0 1 = t 1 1 ∧ 1 ≤ t 1 1 ∧ t 1 1 ≤ 12) :
    ∃ s, f_X5_setText t r = some s ∧ (∀ c, c ≠ 1 → s c = t c) ∧ ((∃ β' τ', f_X0_layPieces b r = some (1, β') ∧ f_X5_putPieces s r = some (1, τ') ∧ AgR r b β' ∧ (∀ c, c ≠ 1 → τ' c = t c) ∧ (∀ j, j < 363 → ¬ UT r j → τ' 1 j = t 1 j) ∧ TXT r t τ' ∧ PG β' (τ' 1) (b 7) ∧ FI (τ' 1) w (β' 10) (β' 9) (β' 11) (PP β') (fun _ => False)) ∨ (∃ β' τ', f_X0_layPieces b r = some (0, β') ∧ f_X5_putPieces s r = some (0, τ') ∧ ∀ c, c ≠ 1 → τ' c = t c)) := by
  subst h10
  obtain ⟨s, e1, e2, e3, e4, e5, e6⟩ := x5_setText hr hl ht
  refine ⟨s, e1, e2, ?_⟩
  have hout : ∀ q, q < 400 → s 1 (363 + q) = t 1 (363 + q) := fun q hq => e3 _ (by unfold UT; omega)
  have hs0 : s 1 0 = t 1 0 := e3 0 (by unfold UT; omega)
  have hs1 : s 1 1 = t 1 1 := e3 1 (by unfold UT; omega)
  rcases lay_pieces (β := b) (τ := s) hr hw (hP.congrS hout) (hF.congr hout (fun _ _ => Iff.rfl) (fun _ _ _ => ⟨rfl, rfl, rfl, fun _ _ => rfl⟩)) h8 (by rw [e2 0 (by omega)]) hl (by rw [hs0]; exact hS0) (by rw [hs1]; exact hS1) with ⟨β', τ', f1, f2, f3, f4, f5, f6⟩ | ⟨β', τ', f1, f2, f3⟩
  · have hp : ∀ k, k < 12 → pt (τ' 1) r k = pt (s 1) r k := fun k hk => pt_c f4.2 hr hk
    refine Or.inl ⟨β', τ', f1, f2, f3, fun c hc => by rw [f4.1 c hc]; exact e2 c hc, fun j hj hu => by rw [f4.2 j hj]; exact e3 j hu, ⟨by rw [hp 2 (by omega)]; exact e4, fun m hm => by rw [hp _ (by omega)]; exact e5 m hm, fun k hk => ?_⟩, f5, f6⟩
    rw [lt_c (fun m hm => hp _ (by omega)) (by omega)]
    exact e6 k hk
  · exact Or.inr ⟨β', τ', f1, f2, fun c hc => by rw [f3.1 c hc]; exact e2 c hc⟩
def WOK (w' : Nat → Prop) (r : Nat) (β τ β' τ' : Blk) : Prop :=
  (∀ c, c < 2 ∨ (5 < c ∧ c ≠ 9 ∧ c ≠ 10 ∧ c ≠ 11 ∧ c ≠ 13 + r) → β' c = β c) ∧ (∀ x, x ≠ r → β' 9 x = β 9 x ∧ β' 10 x = β 10 x ∧ β' 11 x = β 11 x) ∧
  Fx τ τ' ∧ τ' 3 = τ 3 ∧ (∀ j, j < 363 → ¬ UT r j → j ≠ 3 + (12 * r + 3) → j ≠ 3 + (12 * r + 4) → τ' 1 j = τ 1 j) ∧ TXT r τ τ' ∧ PG β' (τ' 1) (β 7) ∧ FI (τ' 1) w' (β' 10) (β' 9) (β' 11) (PP β') (fun _ => False) ∧ pt (τ' 1) r 3 = β' 9 r ∧ pt (τ' 1) r 4 = β' 10 r
def WKO (τ τ' : Blk) : Prop := Fx τ τ' ∧ τ' 3 = τ 3
theorem fx_of {τ τ' : Blk} (h : ∀ c, c ≠ 1 → τ' c = τ c) : Fx τ τ' ∧ τ' 3 = τ 3 := ⟨⟨fun c _ h1 _ _ => h c h1, fun j _ => by rw [h 0 (by omega)]⟩, h 3 (by omega)⟩
theorem write_new {β τ : Blk} {w : Nat → Prop} {len : Int} {r : Nat} (hr : r < 30) (hw : ¬ w r) (hP : PG β (τ 1) (β 7)) (hF : FI (τ 1) w (β 10) (β 9) (β 11) (PP β) (fun _ => False)) (h8 : β 8 r = len) (h10 : τ 0 10 = len) (hl : 0 ≤ len ∧ len ≤ 40) (ht : ∀ k : Nat, (k : Int) < len → 0 ≤ τ 8 k ∧ τ 8 k < 32) (hS0 : β 0 0 = τ 1 0 ∧ 0 ≤ τ 1 0 ∧ τ 1 0 ≤ 16) (hS1 : β 0 1 = τ 1 1 ∧ 1 ≤ τ 1 1 ∧ τ 1 1 ≤ 12) :
    (∃ β' τ', f_X0_layNew β r = some (1, β') ∧ f_X5_writeNew τ r = some (1, τ') ∧ WOK (fun x => w x ∨ x = r) r β τ β' τ') ∨ (∃ β' τ', f_X0_layNew β r = some (0, β') ∧ f_X5_writeNew τ r = some (0, τ') ∧ WKO τ τ') := by
  have hlr := hlen_rng hS0.2 hl.1
  unfold f_X0_layNew f_X5_writeNew
  rw [ld_t r rfl hr, bs, x0_headCells hr h8 hS0.1 hS0.2 hl.1, bs, x5_headLetters h10, bs, x5_thing (by omega) (by omega) (by omega) (by omega), bs]
  generalize hle (τ 1) len = L at hlr ⊢
  have hm := mk_dec (k := 1) (r := (r : Int)) (n := 0) (l := L) (by omega) (by omega) (by omega) (by omega)
  have hmc := mk_cl1 (r := (r : Int)) (n := 0) (l := L) (by omega) (by omega) (by omega)
  have hFh : ∀ q : Nat, q < 400 → τ 1 (363 + q) = 0 → FI (us (τ 1) (363 + q) (mk 1 r 0 L)) (fun x => w x ∨ x = r) (us (β 10) r q) (us (β 9) r q) (us (β 11) r 0) (PP β) (fun _ => False) := by
    intro q hq h0
    have h1 : FI (τ 1) w (β 10) (us (β 9) r q) (β 11) (PP β) (fun x => us (β 9) r q r = x ∧ us (β 9) r q r ≠ q) := (hF.congr (fun _ _ => rfl) (fun _ _ => Iff.rfl) (fun z _ hz => ⟨rfl, us_n (show z ≠ r from fun e => hw (e ▸ hz)), rfl, fun _ _ => rfl⟩)).toE (fun _ _ h => h.elim)
    have e := us_s (s := β 9) (j := r) (v := (q : Int))
    exact h1.head hr hw hq (by rw [e]; omega) h0 (by omega) (fun z => absurd e z)
  generalize hT : mk 1 (r : Int) 0 L = T at hm hmc hFh ⊢
  have hpl := x3_place hP hm.2.2.2.2.1 hm.2.2.2.2.2
  have hpl5 := x5_placed hP.1 hm.2.2.2.2.1 hm.2.2.2.2.2
  rw [hm.1, hm.2.1, hmc, Int.toNat_natCast] at hpl
  rw [hmc] at hpl5
  rw [hpl, hpl5]
  by_cases ep : pgT (τ 1) (2 + L) < 10
  · have hsp := spT_lt hP.1 (c := 2 + L) (by omega) ep
    have hok := pgT_ok ep
    generalize hq : spT (τ 1) (2 + L) = q at hsp
    rw [if_pos ep, if_pos ep, bd2_t, bd2_t, sw_t r rfl hr, bs, sw_t r rfl hr, bs, if_neg (by omega), x5_setPart r 3 rfl (by omega) hr (by omega), bs, x5_setPart r 4 rfl (by omega) hr (by omega), bs]
    have hoc := hP.occ (q := q) (t := T) hsp.1 hsp.2.1 hm.2.2.2.2.1 (by rw [hmc, hsp.2.2]; exact hok)
    rw [hm.1, hm.2.1, hmc, Int.toNat_natCast] at hoc
    generalize hb : up2 (up2 (occB β q 1 (β 7 r) (2 + L)) 9 r q) 10 r q = b
    generalize ht3 : up2 (up2 (up2 τ 1 (363 + q) T) 1 (3 + (12 * r + 3)) q) 1 (3 + (12 * r + 4)) q = t
    have hbc : ∀ c, c < 2 ∨ (5 < c ∧ c ≠ 9 ∧ c ≠ 10) → b c = β c := fun c hc => by rw [← hb, up2_ne (by omega), up2_ne (by omega), occB_ag c (by omega)]
    have hb9 : b 9 = us (β 9) r q := by rw [← hb, up2_ne (by omega), up2_row, occB_ag 9 (by omega)]
    have hb10 : b 10 = us (β 10) r q := by rw [← hb, up2_row, up2_ne (by omega), occB_ag 10 (by omega)]
    have htc : ∀ c, c ≠ 1 → t c = τ c := fun c hc => by rw [← ht3, up2_ne hc, up2_ne hc, up2_ne hc]
    have ht1 : ∀ j, j < 363 → j ≠ 3 + (12 * r + 3) → j ≠ 3 + (12 * r + 4) → t 1 j = τ 1 j := fun j h1 h2 h3 => by rw [← ht3, up2_n (by omega), up2_n (by omega), up2_n (by omega)]
    have htq : ∀ x, x < 400 → t 1 (363 + x) = us (τ 1) (363 + q) T (363 + x) := fun x hx => by rw [← ht3, up2_n (by omega), up2_n (by omega), up2_row]
    have htp : pt (t 1) r 3 = q ∧ pt (t 1) r 4 = q := by
      rw [← ht3, up2_row, pt_us (by omega) (by omega), pt_us (by omega) (by omega), if_neg (by omega), if_pos ⟨rfl, rfl⟩, up2_row, pt_us (by omega) (by omega), if_pos ⟨rfl, rfl⟩]
      exact ⟨rfl, rfl⟩
    have hPb : PG b (t 1) (b 7) := by
      rw [hbc 7 (by omega)]
      exact hoc.congr (fun c h1 h2 => by rw [← hb, up2_ne (by omega), up2_ne (by omega)]) htq (fun _ _ _ => rfl)
    have hFb : FI (t 1) (fun x => w x ∨ x = r) (b 10) (b 9) (us (b 11) r 0) (PP b) (fun _ => False) := by
      rw [hb9, hb10, hbc 11 (by omega)]
      refine (hFh q hsp.1 hsp.2.1).congr htq (fun _ _ => Iff.rfl) (fun z hz _ => ⟨rfl, rfl, rfl, fun i _ => ?_⟩)
      show b (13 + z) i = β (13 + z) i
      rw [hbc _ (by omega)]
    obtain ⟨s, e1, e2, hcase⟩ := fin_row (w := fun x => w x ∨ x = r) hr (Or.inr rfl) hPb hFb (by rw [hbc 8 (by omega)]; exact h8) (by rw [htc 0 (by omega)]; exact h10) hl (by rw [htc 8 (by omega)]; exact ht) (by rw [hbc 0 (by omega), ht1 0 (by omega) (by omega) (by omega)]; exact hS0) (by rw [hbc 0 (by omega), ht1 1 (by omega) (by omega) (by omega)]; exact hS1)
    rw [e1, bs, if_neg (by omega)]
    rcases hcase with ⟨β', τ', f1, f2, f3, f4, f5, f6, f7, f8⟩ | ⟨β', τ', f1, f2, f3⟩
    · rw [f1, f2, bd2_t, bd2_t, if_neg (by decide), if_neg (by decide)]
      have hfx := fx_of (τ := τ) (τ' := τ') (fun c hc => by rw [f4 c hc]; exact htc c hc)
      have hp3 : ∀ k, k = 3 ∨ k = 4 → pt (τ' 1) r k = pt (t 1) r k := fun k hk => f5 _ (by omega) (by unfold UT; omega)
      refine Or.inl ⟨β', τ', rfl, rfl, fun c hc => by rw [f3.1 c (by omega)]; exact hbc c (by omega), fun x hx => ?_, hfx.1, hfx.2, fun j h1 h2 h3 h4 => by rw [f5 j h1 h2]; exact ht1 j h1 h3 h4, ?_, ?_, f8, ?_, ?_⟩
      · rw [f3.1 9 (by omega), f3.1 10 (by omega), f3.2 x hx, hb9, hb10, us_n hx, us_n hx, hbc 11 (by omega)]
        exact ⟨rfl, rfl, rfl⟩
      · unfold TXT at f6 ⊢
        rw [htc 0 (by omega), htc 8 (by omega)] at f6
        exact f6
      · rw [hbc 7 (by omega)] at f7; exact f7
      · rw [hp3 3 (by omega), f3.1 9 (by omega), hb9, us_s]; exact htp.1
      · rw [hp3 4 (by omega), f3.1 10 (by omega), hb10, us_s]; exact htp.2
    · rw [f1, f2, bd2_t, bd2_t, if_pos rfl, if_pos rfl]
      exact Or.inr ⟨_, _, rfl, rfl, fx_of (fun c hc => by rw [f3 c hc]; exact htc c hc)⟩
  · rw [if_neg ep, if_neg ep, bd2_t, bd2_t, sw_t r rfl hr, bs, sw_t r rfl hr, bs, if_pos rfl, x5_setPart r 3 rfl (by omega) hr (by omega), bs, x5_setPart r 4 rfl (by omega) hr (by omega), bs]
    generalize ht3 : up2 (up2 τ 1 (3 + (12 * r + 3)) (-6)) 1 (3 + (12 * r + 4)) (-6) = t
    have htc : ∀ c, c ≠ 1 → t c = τ c := fun c hc => by rw [← ht3, up2_ne hc, up2_ne hc]
    obtain ⟨s, e1, e2, -⟩ := x5_setText (σ := t) hr (by rw [htc 0 (by omega), h10]; exact hl) (by rw [htc 0 (by omega), htc 8 (by omega), h10]; exact ht)
    rw [e1, bs, if_pos rfl]
    exact Or.inr ⟨_, _, rfl, rfl, fx_of (fun c hc => by rw [e2 c hc]; exact htc c hc)⟩
