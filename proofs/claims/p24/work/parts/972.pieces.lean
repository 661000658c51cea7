/-! PURE: the pieces of a row, laid by the law and by the reference *)  -/
theorem ref_piece {r num m : Nat} {d len pm l : Int} {τ : Blk} (hT : TK (τ 1)) (h10 : τ 0 10 = len) (h1 : τ 1 1 = pm) (hr : r < 7) (hn : num ≤ 40) (hd : 0 ≤ d ∧ d < len) (hlen : len ≤ 40) (hpm : 1 ≤ pm ∧ pm ≤ 12) (hl : l = if pm ≤ len - d then pm else len - d) (hp : pgT (τ 1) (1 + l) < 10) : f_X5_putPieces_L7 r (m + 1) d (num : Int) τ = f_X5_putPieces_L7 r m (d + l) ((num + 1 : Nat) : Int) (up2 τ 1 (363 + spT (τ 1) (1 + l)) (mk 2 r num l)) := by
  have hl1 : 1 ≤ l ∧ l ≤ 12 := by
    rw [hl]
    split <;> omega
  have hm := mk_dec (k := 2) (r := (r : Int)) (n := (num : Int)) (l := l) (by omega) (by omega) (by omega) (by omega)
  have hc := mk_cl2 (r := (r : Int)) (n := (num : Int)) (l := l) (by omega) (by omega) (by omega)
  have hpl := x5_placed hT hm.2.2.2.2.1 hm.2.2.2.2.2
  rw [hc, if_pos hp] at hpl
  have hK : ∀ x : Int, x = l → Option.bind (f_X5_thing 2 r num x) (fun r9 => bd2 (f_X5_placed τ r9) fun r10 σ11 => if r10 ≠ (-6) then Option.bind (ck (d + x)) fun v12 => Option.bind (ck ((num : Int) + 1)) fun v13 => f_X5_putPieces_L7 r m v12 v13 σ11 else some (0, σ11)) = f_X5_putPieces_L7 r m (d + l) ((num + 1 : Nat) : Int) (up2 τ 1 (363 + spT (τ 1) (1 + l)) (mk 2 r num l)) := fun x hx => by
    subst hx
    rw [x5_thing (by omega) (by omega) (by omega) (by omega), bs, hpl, bd2_t, if_pos (by omega), ck_t (by omega), bs, ck_t (by omega), bs]
    rfl
  rw [f_X5_putPieces_L7, h10, if_neg (by omega), ld_t 1 (by omega) (by omega), bs, h1, ck_t (a := len - d) (by omega), bs, jp_t]
  by_cases e : pm ≤ len - d
  · rw [if_pos e] at hl
    rw [if_pos e, bs]
    exact hK _ hl.symm
  · rw [if_neg e] at hl
    rw [if_neg e, bs]
    exact hK _ hl.symm
theorem law_piece {q t r num n m : Nat} {y pm l : Int} {T : Blk} {s : Nat → Int} (hqt : q ≠ t) (h : TT T q t s n) (hT : TK s) (h1 : T q 1 = pm) (hr : r < 7) (hnum : num ≤ 40) (hn : n < 64) (hy : 0 < y ∧ y ≤ 40) (hpm : 1 ≤ pm ∧ pm ≤ 12) (hl : l = if pm ≤ y then pm else y) (hp : pgT s (1 + l) < 10) : ∃ T', g_L_write_L304 r q 4 t 64 (m + 1) (num : Int) y T = g_L_write_L304 r q 4 t 64 m ((num + 1 : Nat) : Int) (y - pm) T' ∧ TT T' q t (us s (363 + spT s (1 + l)) (mk 2 r num l)) (n + 1) ∧ (∀ c, c ≠ q → c ≠ t → T' c = T c) ∧ ∀ j, j ≠ 3 → T' q j = T q j := by
  have hl1 : 1 ≤ l ∧ l ≤ 12 := by
    rw [hl]
    split <;> omega
  obtain ⟨p1, p2, -⟩ := spT_lt hT (c := 1 + l) (by omega) hp
  obtain ⟨T', a1, a2, a3, a4⟩ := h.add hqt hn p1 (k := 2) (r := (r : Int)) (m := (num : Int)) (l := l) (by omega) (by omega) (by omega) (by omega) p2
  refine ⟨T', ?_, a2, a3, a4⟩
  have hrm := l_room h hT (c := 1 + l) (by omega)
  rw [if_pos hp] at hrm
  have hK : ∀ x : Int, x = l → Option.bind (ld T q 4 3) (fun v18 => Option.bind (ck (1 + x)) fun v19 => Option.bind (g_L_room T v19 t 64 v18) fun r20 => if 0 ≤ r20 then Option.bind (ck ((num : Int) + 1)) fun v21 => Option.bind (g_L_add T r20 2 r num x t 64 q 4) fun σ22 => Option.bind (ld σ22 q 4 1) fun v23 => Option.bind (ck (y - v23)) fun v24 => g_L_write_L304 r q 4 t 64 m v21 v24 σ22 else some (0, T)) = g_L_write_L304 r q 4 t 64 m ((num + 1 : Nat) : Int) (y - pm) T' := fun x hx => by
    subst hx
    rw [ld_t 3 (by omega) (by omega), bs, h.1.1, ck_t (by omega), bs, hrm, bs, if_pos (by omega), ck_t (by omega), bs, a1, bs, ld_t 1 (by omega) (by omega), bs, a4 1 (by omega), h1, ck_t (by omega), bs]
    rfl
  rw [g_L_write_L304, if_neg (by omega), ld_t 1 (by omega) (by omega), bs, h1, jp_t]
  by_cases e : pm ≤ y
  · rw [if_pos e] at hl
    rw [if_pos e, bs]
    exact hK _ hl.symm
  · rw [if_neg e] at hl
    rw [if_neg e]
    exact hK _ hl.symm
theorem lw_pieces {q t r : Nat} (hqt : q ≠ t) (hr : r < 7) {len pm : Int} (hpm : 4 ≤ pm ∧ pm ≤ 12) (hlen : len ≤ 40) : ∀ (rem m m' num n : Nat) (d y : Int) (T τ : Blk), rem < m → rem < m' → num + rem ≤ 40 → n + rem ≤ 63 → 0 ≤ d → d ≤ len → (y = len - d ∨ (y ≤ 0 ∧ d = len)) → len - d ≤ 4 * rem → TT T q t (τ 1) n → TK (τ 1) → τ 0 10 = len → τ 1 1 = pm → T q 1 = pm → Us (τ 1) + (len - d) + rem ≤ 279 → ∃ (n' : Nat) (T' τ' : Blk), f_X5_putPieces_L7 r m d (num : Int) τ = some (1, τ') ∧ g_L_write_L304 r q 4 t 64 m' (num : Int) y T = some (1, T') ∧ TT T' q t (τ' 1) n' ∧ n' ≤ n + rem ∧ TK (τ' 1) ∧ Th τ τ' ∧ (∀ c, c ≠ q → c ≠ t → T' c = T c) ∧ (∀ j, j ≠ 3 → T' q j = T q j) ∧ (∀ x : Nat, x ≠ r → Wg cl (τ' 1) x = Wg cl (τ 1) x ∧ Wg one (τ' 1) x = Wg one (τ 1) x) ∧ Wg cl (τ' 1) r ≤ Wg cl (τ 1) r + (len - d) + rem ∧ Wg one (τ' 1) r ≤ Wg one (τ 1) r + rem := by
  intro rem
  induction rem with
  | zero =>
    intro m m' num n d y T τ hm hm' _ _ _ hd hy h4 h hT h10 h1 hq1 _
    obtain ⟨m, rfl⟩ : ∃ z, m = z + 1 := ⟨m - 1, by omega⟩
    obtain ⟨m', rfl⟩ : ∃ z, m' = z + 1 := ⟨m' - 1, by omega⟩
    refine ⟨n, T, τ, ?_, ?_, h, by omega, hT, Th.rf, fun _ _ _ => rfl, fun _ _ => rfl, fun _ _ => ⟨rfl, rfl⟩, by omega, by omega⟩
    · rw [f_X5_putPieces_L7, h10, if_pos (by omega)]
    · rw [g_L_write_L304, if_pos (by omega)]
  | succ rem ih =>
    intro m m' num n d y T τ hm hm' hnum hn hd0 hd hy h4 h hT h10 h1 hq1 hU
    obtain ⟨m, rfl⟩ : ∃ z, m = z + 1 := ⟨m - 1, by omega⟩
    obtain ⟨m', rfl⟩ : ∃ z, m' = z + 1 := ⟨m' - 1, by omega⟩
    by_cases e : d = len
    · refine ⟨n, T, τ, ?_, ?_, h, by omega, hT, Th.rf, fun _ _ _ => rfl, fun _ _ => rfl, fun _ _ => ⟨rfl, rfl⟩, by omega, by omega⟩
      · rw [f_X5_putPieces_L7, h10, if_pos (by omega)]
      · rw [g_L_write_L304, if_pos (by omega)]
    · obtain ⟨l, hl⟩ : ∃ l : Int, l = if pm ≤ len - d then pm else len - d := ⟨_, rfl⟩
      have hl1 : 1 ≤ l ∧ l ≤ 12 ∧ l ≤ len - d ∧ (l = pm ∨ (l = len - d ∧ len - d < pm)) := by
        rw [hl]
        split <;> omega
      have hy' : y = len - d := by omega
      have hp : pgT (τ 1) (1 + l) < 10 := room_ok (by omega)
      have f1 := ref_piece (m := m) hT h10 h1 hr (show num ≤ 40 by omega) ⟨hd0, by omega⟩ hlen (by omega) hl hp
      obtain ⟨T1, g1, g2, g3, g4⟩ := law_piece (m := m') (y := y) hqt h hT hq1 hr (show num ≤ 40 by omega) (by omega) ⟨by omega, by omega⟩ (by omega) (hl.trans (by rw [hy'])) hp
      obtain ⟨p1, p2, -⟩ := spT_lt hT (c := 1 + l) (by omega) hp
      have hmd := mk_dec (k := 2) (r := (r : Int)) (n := (num : Int)) (l := l) (by omega) (by omega) (by omega) (by omega)
      have hmc := mk_cl2 (r := (r : Int)) (n := (num : Int)) (l := l) (by omega) (by omega) (by omega)
      have e1 : up2 τ 1 (363 + spT (τ 1) (1 + l)) (mk 2 r num l) 1 = us (τ 1) (363 + spT (τ 1) (1 + l)) (mk 2 r num l) := up2_row
      have hUs := Us_us (s := τ 1) (v := mk 2 (r : Int) num l) p1
      rw [p2, hmc, cl_0] at hUs
      obtain ⟨n', T', τ', i1, i2, i3, i4, i5, i6, i7, i8, i9, i10, i11⟩ := ih m m' (num + 1) (n + 1) (d + l) (y - pm) T1 (up2 τ 1 (363 + spT (τ 1) (1 + l)) (mk 2 r num l)) (by omega) (by omega) (by omega) (by omega) (by omega) (by omega) (by omega) (by omega) (by rw [e1]; exact g2) (by rw [e1]; exact hT.us hmd.2.2.2.2.1) (by rw [up2_ne (by omega)]; exact h10) (by rw [up2_n (by omega)]; exact h1) (by rw [g4 1 (by omega)]; exact hq1) (by rw [e1, hUs]; omega)
      have hw : ∀ (g : Int → Int) (g0 : g 0 = 0) (x : Nat), Wg g (up2 τ 1 (363 + spT (τ 1) (1 + l)) (mk 2 r num l) 1) x = Wg g (τ 1) x + if r = x then g (mk 2 r num l) else 0 := fun g g0 x => by
        rw [e1, Wg_us p1, p2, wv_0 g0, wv_mk (by omega) (by omega) (by omega) (by omega)]
        omega
      refine ⟨n', T', τ', f1.trans i1, g1.trans i2, i3, by omega, i5, Th.up.tr i6, fun c c1 c2 => (i7 c c1 c2).trans (g3 c c1 c2), fun j hj => (i8 j hj).trans (g4 j hj), fun x hx => ?_, ?_, ?_⟩
      · obtain ⟨w1, w2⟩ := i9 x hx
        rw [w1, w2, hw cl cl_0 x, hw one one_0 x, if_neg (Ne.symm hx), if_neg (Ne.symm hx)]
        omega
      · rw [hw cl cl_0 r, if_pos rfl, hmc] at i10
        omega
      · rw [hw one one_0 r, if_pos rfl, one_mk (by omega) (by omega) (by omega) (by omega)] at i11
        omega
