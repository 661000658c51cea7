/-! PURE: a row written, by the law and by the reference: what both end with; a new row *)  -/
/-- the law's table of rows behind a write of row r, its home aside -/
def RRow (T T' : Blk) (ir r : Nat) (len pl : Int) : Prop := T' ir (4 * r + 1) = len ∧ T' ir (4 * r + 3) = pl ∧ ∀ j, j ≠ 4 * r + 1 → j ≠ 4 * r + 3 → T' ir j = T ir j
theorem lw_tail {q t ir r p n7 rem : Nat} {len pm hl : Int} {T7 τ7 : Blk} {s7 : Nat → Int} (hqt : q ≠ t) (hqi : q ≠ ir) (hit : ir ≠ t) (hr : r < 7) (hpm : 4 ≤ pm ∧ pm ≤ 12) (hlen : 0 ≤ len ∧ len ≤ 40) (h : TT T7 q t s7 n7) (hp : p < 400) (h0 : s7 (363 + p) = 0) (hrem : len ≤ 4 * rem ∧ rem ≤ 10) (hn : n7 + 1 + rem ≤ 63) (hs : ∀ z, z < 400 → τ7 1 (363 + z) = us s7 (363 + p) (mk 1 r 0 hl) (363 + z)) (hT : TK (τ7 1)) (h10 : τ7 0 10 = len) (h1 : τ7 1 1 = pm) (hhl : hle (τ7 1) len = hl) (hhr : 0 ≤ hl ∧ hl ≤ 16 ∧ hl ≤ len) (hq1 : T7 q 1 = pm) (hU : Us s7 ≤ 200) :
    ∃ (n' : Nat) (T' τ' : Blk), f_X5_putPieces τ7 r = some (1, τ') ∧ (Option.bind (g_L_add T7 p 1 r 0 hl t 64 q 4) fun σ8 => Option.bind (sw σ8 ir 28 (4 * (r : Int) + 1) len) fun σ9 => Option.bind (sw σ9 ir 28 (4 * (r : Int) + 3) p) fun σ10 => Option.bind (ck (len - hl)) fun v11 => g_L_write_L304 r q 4 t 64 fu 0 v11 σ10) = some (1, T') ∧ TT T' q t (τ' 1) n' ∧ n' ≤ n7 + 1 + rem ∧ TK (τ' 1) ∧ Th τ7 τ' ∧ (∀ c, c ≠ q → c ≠ t → c ≠ ir → T' c = T7 c) ∧ (∀ j, j ≠ 3 → T' q j = T7 q j) ∧ RRow T7 T' ir r len p ∧ (∀ x : Nat, x ≠ r → Wg cl (τ' 1) x = Wg cl s7 x ∧ Wg one (τ' 1) x = Wg one s7 x) ∧ Wg cl (τ' 1) r ≤ Wg cl s7 r + 2 + len + rem ∧ Wg one (τ' 1) r ≤ Wg one s7 r + 1 + rem := by
  have hmd := mk_dec (k := 1) (r := (r : Int)) (n := 0) (l := hl) (by omega) (by omega) (by omega) (by omega)
  have hmc := mk_cl1 (r := (r : Int)) (n := 0) (l := hl) (by omega) (by omega) (by omega)
  obtain ⟨T8, a1, a2, a3, a4⟩ := h.add hqt (by omega) hp (k := 1) (r := (r : Int)) (m := 0) (l := hl) (by omega) (by omega) (by omega) (by omega) h0
  have hg : ∀ c, c ≠ ir → up2 (up2 T8 ir (4 * r + 1) len) ir (4 * r + 3) p c = T8 c := fun c hc => by rw [up2_ne hc, up2_ne hc]
  have ht10 : TT (up2 (up2 T8 ir (4 * r + 1) len) ir (4 * r + 3) p) q t (τ7 1) (n7 + 1) := a2.congr (by rw [hg q hqi]) (fun k _ => by rw [hg t (Ne.symm hit)]) hs
  have hUs : Us (τ7 1) = Us s7 + (2 + hl) := by
    have e1 : Us (τ7 1) = Us (us s7 (363 + p) (mk 1 r 0 hl)) := sumN_congr (fun z hz => by
      show cl (τ7 1 (363 + z)) = cl (us s7 (363 + p) (mk 1 r 0 hl) (363 + z))
      rw [hs z hz])
    rw [e1, Us_us hp, h0, cl_0, hmc]
    omega
  have hw : ∀ (g : Int → Int) (g0 : g 0 = 0) (x : Nat), Wg g (τ7 1) x = Wg g s7 x + if r = x then g (mk 1 r 0 hl) else 0 := fun g g0 x => by
    rw [Wg_congr hs, Wg_us hp, h0, wv_0 g0, wv_mk (by omega) (by omega) (by omega) (by omega)]
    omega
  obtain ⟨n', T', τ', i1, i2, i3, i4, i5, i6, i7, i8, i9, i10, i11⟩ := lw_pieces (q := q) (t := t) (r := r) hqt hr (len := len) hpm hlen.2 rem fu fu 0 (n7 + 1) hl (len - hl) _ τ7 (fu_lt (by omega)) (fu_lt (by omega)) (by omega) (by omega) hhr.1 hhr.2.2 (Or.inl rfl) (by omega) ht10 hT h10 h1 (by rw [hg q hqi, a4 1 (by omega)]; exact hq1) (by omega)
  refine ⟨n', T', τ', ?_, ?_, i3, by omega, i5, i6, fun c c1 c2 c3 => ?_, fun j hj => ?_, ⟨?_, ?_, fun j j1 j2 => ?_⟩, fun x hx => ?_, ?_, ?_⟩
  · unfold f_X5_putPieces
    rw [x5_headLetters h10, bs, hhl]
    exact i1
  · have a1' : g_L_add T7 p 1 r 0 hl t 64 q 4 = some T8 := a1
    rw [a1', bs, sw_t (4 * r + 1) (by omega) (by omega), bs, sw_t (4 * r + 3) (by omega) (by omega), bs, ck_t (by omega), bs]
    exact i2
  · rw [i7 c c1 c2, hg c c3, a3 c c1 c2]
  · rw [i8 j hj, hg q hqi, a4 j hj]
  · rw [i7 ir (Ne.symm hqi) hit, up2_n (by omega), up2_s]
  · rw [i7 ir (Ne.symm hqi) hit, up2_s]
  · rw [i7 ir (Ne.symm hqi) hit, up2_n (by omega), up2_n (by omega), a3 ir (Ne.symm hqi) hit]
  · obtain ⟨w1, w2⟩ := i9 x hx
    rw [w1, w2, hw cl cl_0 x, hw one one_0 x, if_neg (Ne.symm hx), if_neg (Ne.symm hx)]
    omega
  · rw [hw cl cl_0 r, if_pos rfl, hmc] at i10
    omega
  · rw [hw one one_0 r, if_pos rfl, one_mk (by omega) (by omega) (by omega) (by omega)] at i11
    omega
/-- what a write changes in the reference: row r's text, its home and its place, and places -/
def RefW (r : Nat) (τ τ' : Blk) : Prop := (∀ c, c ≠ 1 → c ≠ 9 → c ≠ 0 → τ' c = τ c) ∧ (∀ j, j ≠ 12 → τ' 0 j = τ 0 j) ∧ ∀ j, j < 363 → ¬ UT r j → j ≠ 3 + (12 * r + 3) → j ≠ 3 + (12 * r + 4) → τ' 1 j = τ 1 j
/-- what a write ends with -/
def WEnd (q t ir r rem n : Nat) (len : Int) (T T' τ τ' : Blk) (s0 : Nat → Int) : Prop :=
  (∃ n', TT T' q t (τ' 1) n' ∧ n' ≤ n + 2 + rem) ∧ TK (τ' 1) ∧ RefW r τ τ' ∧ (pt (τ' 1) r 2 = len ∧ LTR (τ' 1) r ∧ ∀ k : Nat, (k : Int) < len → lt (τ' 1) r k = τ 8 k) ∧ (∀ c, c ≠ q → c ≠ t → c ≠ ir → T' c = T c) ∧ (∀ j, j ≠ 3 → T' q j = T q j) ∧ (T' ir (4 * r + 1) = len ∧ T' ir (4 * r + 2) = pt (τ' 1) r 3 ∧ T' ir (4 * r + 3) = pt (τ' 1) r 4 ∧ ∀ j, j ≠ 4 * r + 1 → j ≠ 4 * r + 2 → j ≠ 4 * r + 3 → T' ir j = T ir j) ∧ (∀ x : Nat, x ≠ r → Wg cl (τ' 1) x = Wg cl s0 x ∧ Wg one (τ' 1) x = Wg one s0 x) ∧ Wg cl (τ' 1) r ≤ 1 + 2 + len + rem ∧ Wg one (τ' 1) r ≤ 1 + 1 + rem
theorem lw_new {q t ir r n rem : Nat} {len : Int} {T τ : Blk} (hqt : q ≠ t) (hqi : q ≠ ir) (hit : ir ≠ t) (hr : r < 7) (h : TT T q t (τ 1) n) (hT : TK (τ 1)) (h10 : τ 0 10 = len) (hlen : 0 ≤ len ∧ len ≤ 40) (htold : ∀ k : Nat, (k : Int) < len → 0 ≤ τ 8 k ∧ τ 8 k < 32) (hS0 : T q 0 = τ 1 0 ∧ 0 ≤ τ 1 0 ∧ τ 1 0 ≤ 16) (hS1 : T q 1 = τ 1 1 ∧ 4 ≤ τ 1 1 ∧ τ 1 1 ≤ 12) (hrem : len ≤ 4 * rem ∧ rem ≤ 10) (hn : n ≤ 50) (hU : Us (τ 1) ≤ 199) (hW : Wg cl (τ 1) r = 0 ∧ Wg one (τ 1) r = 0) :
    ∃ T' τ', f_X5_writeNew τ r = some (1, τ') ∧ g_L_write T r len 1 q 4 ir 28 t 64 = some (1, T') ∧ WEnd q t ir r rem n len T T' τ τ' (τ 1) := by
  have hhr := hlen_rng (s := τ 1) (len := len) hS0.2 hlen.1
  obtain ⟨hl, hhl⟩ : ∃ hl, hle (τ 1) len = hl := ⟨_, rfl⟩
  rw [hhl] at hhr
  have hmd := mk_dec (k := 1) (r := (r : Int)) (n := 0) (l := hl) (by omega) (by omega) (by omega) (by omega)
  have hmc := mk_cl1 (r := (r : Int)) (n := 0) (l := hl) (by omega) (by omega) (by omega)
  have hpg : pgT (τ 1) (2 + hl) < 10 := room_ok (by omega)
  obtain ⟨p, hp⟩ : ∃ p, spT (τ 1) (2 + hl) = p := ⟨_, rfl⟩
  obtain ⟨p1, p2, -⟩ := spT_lt hT (c := 2 + hl) (by omega) hpg
  have hpl := x5_placed hT hmd.2.2.2.2.1 hmd.2.2.2.2.2
  have hrm := l_room h hT (c := 2 + hl) (by omega)
  rw [hmc, if_pos hpg] at hpl
  rw [if_pos hpg] at hrm
  rw [hp] at p1 p2 hpl hrm
  -- the reference up to its pieces
  obtain ⟨τ5, hτ5⟩ : ∃ τ5, up2 (up2 (up2 τ 1 (363 + p) (mk 1 r 0 hl)) 1 (3 + (12 * r + 3)) p) 1 (3 + (12 * r + 4)) p = τ5 := ⟨_, rfl⟩
  have c5 : ∀ c, c ≠ 1 → τ5 c = τ c := fun c hc => by rw [← hτ5, up2_ne hc, up2_ne hc, up2_ne hc]
  have s5 : ∀ j, j ≠ 363 + p → j ≠ 3 + (12 * r + 3) → j ≠ 3 + (12 * r + 4) → τ5 1 j = τ 1 j := fun j j1 j2 j3 => by rw [← hτ5, up2_n (by omega), up2_n (by omega), up2_n (by omega)]
  have s5p : ∀ z, z < 400 → τ5 1 (363 + z) = us (τ 1) (363 + p) (mk 1 r 0 hl) (363 + z) := fun z hz => by
    rw [← hτ5, up2_n (by omega), up2_n (by omega), up2_row]
  obtain ⟨τ7, g1, g2, g3, g4, g5, g6⟩ := x5_setText (σ := τ5) (r := r) (by omega) (by rw [c5 0 (by omega), h10]; exact hlen) (fun k hk => by rw [c5 8 (by omega)]; rw [c5 0 (by omega), h10] at hk; exact htold k hk)
  rw [c5 0 (by omega), h10] at g4 g6
  have s7 : ∀ j, 363 ≤ j → τ7 1 j = τ5 1 j := fun j hj => g3 j (by unfold UT; omega)
  have s7p : ∀ z, z < 400 → τ7 1 (363 + z) = us (τ 1) (363 + p) (mk 1 r 0 hl) (363 + z) := fun z hz => (s7 _ (by omega)).trans (s5p z hz)
  have s70 : τ7 1 0 = τ 1 0 := by rw [g3 0 (by unfold UT; omega), s5 0 (by omega) (by omega) (by omega)]
  have s71 : τ7 1 1 = τ 1 1 := by rw [g3 1 (by unfold UT; omega), s5 1 (by omega) (by omega) (by omega)]
  have hT7 : TK (τ7 1) := fun z hz => by
    rw [s7p z hz]
    exact hT.us hmd.2.2.2.2.1 z hz
  obtain ⟨T6, hT6⟩ : ∃ T6, up2 T ir (4 * r + 2) p = T6 := ⟨_, rfl⟩
  have c6 : ∀ c, c ≠ ir → T6 c = T c := fun c hc => by rw [← hT6, up2_ne hc]
  have h6 : TT T6 q t (τ 1) n := h.congr (by rw [c6 q hqi]) (fun k _ => by rw [c6 t (Ne.symm hit)]) (fun _ _ => rfl)
  obtain ⟨n', T', τ', i1, i2, i3, i4, i5, i6, i7, i8, i9, i10, i11, i12⟩ := lw_tail (p := p) (rem := rem) (hl := hl) (T7 := T6) (τ7 := τ7) (s7 := τ 1) hqt hqi hit hr hS1.2 hlen h6 p1 p2 hrem (by omega) s7p hT7 (by rw [g2 0 (by omega), c5 0 (by omega)]; exact h10) s71 (by unfold hle at hhl ⊢; rw [s70]; exact hhl) hhr (by rw [c6 q hqi]; exact hS1.1) (by omega)
  have eR : ∀ j, j < 363 → τ' 1 j = τ7 1 j := fun j hj => i6.2 j hj
  have p3 : pt (τ' 1) r 3 = p := by
    unfold pt
    rw [eR _ (by omega), g3 _ (by unfold UT; omega), ← hτ5, up2_n (by omega), up2_s]
  have p4 : pt (τ' 1) r 4 = p := by
    unfold pt
    rw [eR _ (by omega), g3 _ (by unfold UT; omega), ← hτ5, up2_s]
  refine ⟨T', τ', ?_, ?_, ⟨n', i3, by omega⟩, i5, ⟨fun c c1 _ _ => ?_, fun j _ => ?_, fun j j0 j1 j2 j3 => ?_⟩, ⟨?_, ?_, fun k hk => ?_⟩, fun c c1 c2 c3 => ?_, fun j hj => ?_, ⟨i9.1, ?_, ?_, fun j j1 j2 j3 => ?_⟩, i10, by omega, by omega⟩
  · unfold f_X5_writeNew
    rw [x5_headLetters h10, hhl, bs, x5_thing (by omega) (by omega) (by omega) (by omega), bs, hpl, bd2_t, x5_setPart r 3 rfl (by omega) (by omega) (by omega), bs, x5_setPart r 4 rfl (by omega) (by omega) (by omega), bs, hτ5, g1, bs, if_neg (by omega), i1, bd2_t, if_neg (by decide)]
  · have hK : ∀ x3 : Int, x3 = hl → Option.bind (ck (4 * (r : Int))) (fun v4 => jp (fun (x6 : Int) (σ7 : Blk) => if 0 ≤ x6 then Option.bind (g_L_add σ7 x6 1 r 0 x3 t 64 q 4) fun σ8 => Option.bind (sw σ8 ir 28 (v4 + 1) len) fun σ9 => Option.bind (sw σ9 ir 28 (v4 + 3) x6) fun σ10 => Option.bind (ck (len - x3)) fun v11 => g_L_write_L304 r q 4 t 64 fu 0 v11 σ10 else some (0, σ7)) fun j5 => Option.bind (ld T q 4 3) fun v62 => Option.bind (ck (2 + x3)) fun v63 => Option.bind (g_L_room T v63 t 64 v62) fun r64 => Option.bind (sw T ir 28 (v4 + 2) r64) fun σ65 => j5 r64 σ65) = some (1, T') := fun x3 hx => by
      subst hx
      rw [ck_t (by omega), bs, jp_t, ld_t 3 (by omega) (by omega), bs, h.1.1, ck_t (by omega), bs, hrm, bs, sw_t (4 * r + 2) (by omega) (by omega), bs, hT6]
      dsimp only
      rw [if_pos (by omega)]
      exact i2
    unfold g_L_write
    simp only [show ¬ ((1 : Int) = 0) by decide, if_false]
    rw [ld_t 0 (by omega) (by omega), bs, hS0.1, jp_t]
    unfold hle at hhl
    by_cases e : τ 1 0 ≤ len
    · rw [if_pos e] at hhl
      rw [if_pos e, bs]
      exact hK _ hhl
    · rw [if_neg e] at hhl
      rw [if_neg e]
      exact hK _ hhl
  · rw [i6.1 c c1, g2 c c1, c5 c c1]
  · rw [i6.1 0 (by omega), g2 0 (by omega), c5 0 (by omega)]
  · rw [eR j j0, g3 j j1, s5 j (by omega) j2 j3]
  · unfold pt
    rw [eR _ (by omega)]
    exact g4
  · intro m hm
    unfold pt
    rw [eR _ (by omega)]
    exact g5 m hm
  · have e : lt (τ' 1) r k = lt (τ7 1) r k := by
      unfold lt pt
      rw [eR _ (by omega)]
    rw [e, g6 k hk, c5 8 (by omega)]
  · rw [i7 c c1 c2 c3, c6 c c3]
  · rw [i8 j hj, c6 q hqi]
  · rw [p3, i9.2.2 _ (by omega) (by omega), ← hT6, up2_s]
  · rw [p4]
    exact i9.2.1
  · rw [i9.2.2 j j1 j3, ← hT6, up2_n (by omega)]
