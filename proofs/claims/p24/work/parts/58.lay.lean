/-! PURE: the pieces of a row are laid -/
theorem PG.congr {β β' : Blk} {s s' ow ow' : Nat → Int} (h : PG β s ow) (hb : ∀ c, 2 ≤ c → c ≤ 5 → β' c = β c) (hs : ∀ q, q < 400 → s' (363 + q) = s (363 + q)) (ho : ∀ q, q < 400 → s (363 + q) ≠ 0 → ow' (rwo (s (363 + q))).toNat = ow (rwo (s (363 + q))).toNat) : PG β' s' ow' := by
  refine ⟨fun q hq => by rw [hs q hq]; exact h.1 q hq, fun q hq => ?_, fun p hp => ?_⟩
  · rw [hs q hq, hb 2 (by omega) (by omega), hb 3 (by omega) (by omega), hb 4 (by omega) (by omega)]
    have h1 := h.2.1 q hq
    exact ⟨h1.1, h1.2.1, fun z => by rw [ho q hq z]; exact h1.2.2 z⟩
  · have e : fr s' p = fr s p := by
      unfold fr
      rw [sumN_congr (f := fun j => cl (s' (363 + (40 * p + j)))) (g := fun j => cl (s (363 + (40 * p + j)))) (fun i hi => by
        show cl (s' (363 + (40 * p + i))) = cl (s (363 + (40 * p + i)))
        rw [hs _ (by omega)])]
    rw [e, hb 5 (by omega) (by omega)]
    exact h.2.2 p hp
theorem PG.congrB {β β' : Blk} {s ow : Nat → Int} (h : PG β s ow) (hb : ∀ c, 2 ≤ c → c ≤ 5 → β' c = β c) : PG β' s ow := h.congr hb (fun _ _ => rfl) (fun _ _ _ => rfl)
theorem PG.congrS {β : Blk} {s s' ow : Nat → Int} (h : PG β s ow) (hs : ∀ q, q < 400 → s' (363 + q) = s (363 + q)) : PG β s' ow := h.congr (fun _ _ _ => rfl) hs (fun _ _ _ => rfl)
theorem x5_thing {k r n l : Int} (hk : 1 ≤ k ∧ k ≤ 3) (hr : 0 ≤ r ∧ r < 30) (hn : 0 ≤ n ∧ n < 64) (hl : 0 ≤ l ∧ l ≤ 16) : f_X5_thing k r n l = some (mk k r n l) := by
  unfold f_X5_thing mk
  rw [ck_t (by omega), bs]
/-- what putting things leaves alone -/
def Th (τ τ' : Blk) : Prop := (∀ c, c ≠ 1 → τ' c = τ c) ∧ ∀ j, j < 363 → τ' 1 j = τ 1 j
theorem Th.rf {τ : Blk} : Th τ τ := ⟨fun _ _ => rfl, fun _ _ => rfl⟩
theorem Th.tr {τ τ' τ'' : Blk} (h : Th τ τ') (h2 : Th τ' τ'') : Th τ τ'' := ⟨fun c a => (h2.1 c a).trans (h.1 c a), fun j hj => (h2.2 j hj).trans (h.2 j hj)⟩
theorem Th.up {τ : Blk} {q : Nat} {t : Int} : Th τ (up2 τ 1 (363 + q) t) := ⟨fun c a => up2_ne a, fun j hj => up2_n (by omega)⟩
theorem us_us1 {s : Nat → Int} {j : Nat} {a b : Int} : us (us s j a) j b = us s j b := by
  funext i
  unfold us
  split <;> rfl
/-- what laying pieces leaves alone -/
def AgR (r : Nat) (β β' : Blk) : Prop := (∀ c, c < 2 ∨ (5 < c ∧ c ≠ 11 ∧ c ≠ 13 + r) → β' c = β c) ∧ ∀ x, x ≠ r → β' 11 x = β 11 x
def PP (β : Blk) : Nat → Nat → Int := fun x i => β (13 + x) i
theorem lay_pieces {β τ : Blk} {w : Nat → Prop} {len : Int} {r : Nat} (hr : r < 30) (hw : w r) (hP : PG β (τ 1) (β 7)) (hF : FI (τ 1) w (β 10) (β 9) (us (β 11) r 0) (PP β) (fun _ => False)) (h8 : β 8 r = len) (h10 : τ 0 10 = len) (hlen : 0 ≤ len ∧ len ≤ 40) (hS0 : β 0 0 = τ 1 0 ∧ 0 ≤ τ 1 0 ∧ τ 1 0 ≤ 16) (hS1 : β 0 1 = τ 1 1 ∧ 1 ≤ τ 1 1 ∧ τ 1 1 ≤ 12) :
    (∃ β' τ', f_X0_layPieces β r = some (1, β') ∧ f_X5_putPieces τ r = some (1, τ') ∧ AgR r β β' ∧ Th τ τ' ∧ PG β' (τ' 1) (β 7) ∧ FI (τ' 1) w (β' 10) (β' 9) (β' 11) (PP β') (fun _ => False)) ∨ (∃ β' τ', f_X0_layPieces β r = some (0, β') ∧ f_X5_putPieces τ r = some (0, τ') ∧ Th τ τ') := by
  have key : ∀ (n x : Nat) (b t : Blk) (y : Int), x ≤ 40 → 40 - x < n → 0 ≤ y → y ≤ 40 - x → (∀ c, c < 2 ∨ (5 < c ∧ c ≠ 11 ∧ c ≠ 13 + r) → b c = β c) → b 11 = us (β 11) r x → Th τ t → PG b (t 1) (β 7) → FI (t 1) w (β 10) (β 9) (us (β 11) r x) (PP b) (fun _ => False) →
    (∃ β' τ', f_X0_layPieces_L15 r n y (x : Int) b = some (1, β') ∧ f_X5_putPieces_L7 r n (len - y) (x : Int) t = some (1, τ') ∧ AgR r β β' ∧ Th τ τ' ∧ PG β' (τ' 1) (β 7) ∧ FI (τ' 1) w (β' 10) (β' 9) (β' 11) (PP β') (fun _ => False)) ∨ (∃ β' τ', f_X0_layPieces_L15 r n y (x : Int) b = some (0, β') ∧ f_X5_putPieces_L7 r n (len - y) (x : Int) t = some (0, τ') ∧ Th τ τ') := by
    intro n
    induction n with
    | zero => intro x b t y _ h; omega
    | succ n ih =>
      intro x b t y hx hn hy0 hy hb h11 ht hPb hFb
      have e10 : t 0 10 = len := by rw [ht.1 0 (by omega)]; exact h10
      rw [f_X0_layPieces_L15, f_X5_putPieces_L7, e10]
      by_cases e : y = 0
      · left
        refine ⟨b, t, ?_, by rw [if_pos (by omega)], ⟨fun c hc => hb c (by omega), fun z hz => by rw [h11, us_n hz]⟩, ht, hPb, ?_⟩
        · split
          · rfl
          · rw [if_pos (by omega)]
        · rw [h11, hb 9 (by omega), hb 10 (by omega)]
          exact hFb
      · have es1 : t 1 1 = τ 1 1 := ht.2 1 (by omega)
        have eb1 : b 0 1 = τ 1 1 := by rw [hb 0 (by omega)]; exact hS1.1
        rw [if_neg (by omega), if_neg (by omega), if_neg (by omega)]
        dsimp only [nm]
        obtain ⟨l, hl, hl1, hl2⟩ : ∃ l : Int, imin y (b 0 1) = l ∧ 1 ≤ l ∧ l ≤ 12 ∧ l ≤ y := by
          refine ⟨_, rfl, ?_⟩
          unfold imin
          split <;> omega
        have hl' : (if t 1 1 ≤ len - (len - y) then t 1 1 else len - (len - y)) = l := by
          rw [← hl, es1, eb1]
          unfold imin
          split
          · split <;> omega
          · rw [if_neg (by omega)]; omega
        have hm := mk_dec (k := 2) (r := (r : Int)) (n := (x : Int)) (l := l) (by omega) (by omega) (by omega) (by omega)
        have hmc := mk_cl2 (r := (r : Int)) (n := (x : Int)) (l := l) (by omega) (by omega) (by omega)
        generalize hT : mk 2 (r : Int) (x : Int) l = T at hm hmc
        have h7 : b 7 r = β 7 r := by rw [hb 7 (by omega)]
        have hpl := x3_place hPb hm.2.2.2.2.1 hm.2.2.2.2.2
        have hpl5 := x5_placed hPb.1 hm.2.2.2.2.1 hm.2.2.2.2.2
        rw [hm.1, hm.2.1, hmc, Int.toNat_natCast] at hpl
        rw [hmc] at hpl5
        rw [hl, ld_t r rfl hr, bs, ck_t (by omega), bs, h7, hpl, ld_t 1 (by omega) (by omega), bs, ck_t (a := len - (len - y)) (by omega), bs]
        dsimp only [jp]
        have em : (if t 1 1 ≤ len - (len - y) then Option.bind (some (t 1 1)) (fun v14 => Option.bind (f_X5_thing 2 r x v14) fun r9 => bd2 (f_X5_placed t r9) fun r10 σ11 => if r10 ≠ (-6) then Option.bind (ck ((len - y) + v14)) fun v12 => Option.bind (ck ((x : Int) + 1)) fun v13 => f_X5_putPieces_L7 r n v12 v13 σ11 else some (0, σ11)) else Option.bind (some (len - (len - y))) (fun v14 => Option.bind (f_X5_thing 2 r x v14) fun r9 => bd2 (f_X5_placed t r9) fun r10 σ11 => if r10 ≠ (-6) then Option.bind (ck ((len - y) + v14)) fun v12 => Option.bind (ck ((x : Int) + 1)) fun v13 => f_X5_putPieces_L7 r n v12 v13 σ11 else some (0, σ11))) = bd2 (f_X5_placed t T) fun r10 σ11 => if r10 ≠ (-6) then Option.bind (ck ((len - y) + l)) fun v12 => Option.bind (ck ((x : Int) + 1)) fun v13 => f_X5_putPieces_L7 r n v12 v13 σ11 else some (0, σ11) := by
          have hth : f_X5_thing 2 r x l = some T := by rw [x5_thing (by omega) (by omega) (by omega) (by omega), hT]
          by_cases e3 : t 1 1 ≤ len - (len - y)
          · rw [if_pos e3] at hl' ⊢
            rw [hl', bs, hth, bs]
          · rw [if_neg e3] at hl' ⊢
            rw [hl', bs, hth, bs]
        rw [em, hpl5]
        by_cases ep : pgT (t 1) (1 + l) < 10
        · have hsp := spT_lt hPb.1 (c := 1 + l) (by omega) ep
          have hok := pgT_ok ep
          generalize hq : spT (t 1) (1 + l) = q at hsp
          rw [if_pos ep, if_pos ep, bd2_t, bd2_t, if_pos (by omega), if_pos (by omega), gd_t (by omega) (by omega), Int.toNat_natCast, sw_t x rfl (by omega), bs, ld_t r rfl hr, bs, up2_ne (show (11 : Nat) ≠ 13 + r by omega), occB_ag 11 (by omega), h11, us_s, ck_t (a := (x : Int) + 1) (by omega), bs, sw_t r rfl hr, ck_t (a := y - l) (by omega), ck_t (a := len - y + l) (by omega)]
          simp only [bs]
          have hoc := hPb.occ (q := q) (t := T) hsp.1 hsp.2.1 hm.2.2.2.2.1 (by rw [hmc, hsp.2.2]; exact hok)
          rw [hm.1, hm.2.1, hmc, Int.toNat_natCast] at hoc
          have hih := ih (x + 1) (up2 (up2 (occB b q 2 (β 7 r) (1 + l)) (13 + r) x q) 11 r ((x : Int) + 1)) (up2 t 1 (363 + q) T) (y - l) (by omega) (by omega) (by omega) (by omega) (fun c hc => by rw [up2_ne (by omega), up2_ne (by omega), occB_ag c (by omega)]; exact hb c hc) (by rw [up2_row, up2_ne (by omega), occB_ag 11 (by omega), h11, us_us1]; rfl) (ht.tr Th.up) (by
            rw [up2_row]
            exact hoc.congrB (fun c h1 h2 => by rw [up2_ne (by omega), up2_ne (by omega)])) (by
            rw [up2_row]
            have hnp : us (β 11) r (x : Int) r = x := us_s
            have hfp := hFb.piece (q := q) (l := l) (pp' := PP (up2 (up2 (occB b q 2 (β 7 r) (1 + l)) (13 + r) x q) 11 r ((x : Int) + 1))) hr hw hsp.1 hsp.2.1 (by omega) (by rw [hnp]; omega) (by
              rw [hnp, Int.toNat_natCast]
              show up2 (up2 (occB b q 2 (β 7 r) (1 + l)) (13 + r) x q) 11 r ((x : Int) + 1) (13 + r) x = q
              rw [up2_n (by omega)]
              exact up2_s) (fun z i hz => by
              rw [hnp, Int.toNat_natCast] at hz
              show up2 (up2 (occB b q 2 (β 7 r) (1 + l)) (13 + r) x q) 11 r ((x : Int) + 1) (13 + z) i = b (13 + z) i
              rw [up2_n (by omega), up2_n (by omega), occB_ag (13 + z) (by omega)])
            rw [hnp, hT] at hfp
            refine hfp.congr (fun _ _ => rfl) (fun _ _ => Iff.rfl) (fun z hz _ => ⟨rfl, rfl, ?_, fun _ _ => rfl⟩)
            by_cases ez : z = r
            · rw [ez, us_s, us_s]; rfl
            · rw [us_n ez, us_n ez, us_n ez])
          rw [show len - y + l = len - (y - l) by omega]
          exact hih
        · rw [if_neg ep, if_neg ep, bd2_t, bd2_t, if_neg (by omega), if_neg (by omega)]
          exact Or.inr ⟨_, _, rfl, rfl, ht⟩
  obtain ⟨hl, hl1, hl2, hl3, hl4⟩ : ∃ hl : Int, imin len (β 0 0) = hl ∧ (if τ 1 0 ≤ len then τ 1 0 else len) = hl ∧ 0 ≤ hl ∧ hl ≤ len := by
    refine ⟨if τ 1 0 ≤ len then τ 1 0 else len, ?_, rfl, ?_⟩
    · unfold imin
      rw [hS0.1]
      split <;> split <;> omega
    · split <;> omega
  have hk := key fu 0 (up2 β 11 r 0) τ (len - hl) (by omega) (fu_lt (by omega)) (by omega) (by omega) (fun c hc => up2_ne (by omega)) up2_row Th.rf (hP.congrB (fun c h1 h2 => up2_ne (by omega))) (hF.congr (fun _ _ => rfl) (fun _ _ => Iff.rfl) (fun z hz _ => ⟨rfl, rfl, rfl, fun i _ => up2_n (show 13 + z ≠ 11 ∨ i ≠ r by omega)⟩))
  rw [show len - (len - hl) = hl by omega] at hk
  have e1 : f_X0_layPieces β r = f_X0_layPieces_L15 r fu (len - hl) 0 (up2 β 11 r 0) := by
    unfold f_X0_layPieces f_X0_headLetters
    rw [ld_t r rfl hr, bs, bs, bs, h8, hl1, ck_t (by omega), bs, sw_t r rfl hr, bs]
  have e2 : f_X5_putPieces τ r = f_X5_putPieces_L7 r fu hl 0 τ := by
    unfold f_X5_putPieces f_X5_headLetters
    rw [ld_t 0 (by omega) (by omega), bs, bs, h10]
    by_cases e : τ 1 0 ≤ len
    · rw [if_pos e] at hl2 ⊢
      rw [hl2, bs]
    · rw [if_neg e] at hl2 ⊢
      rw [hl2, bs]
  rw [e1, e2]
  exact hk
