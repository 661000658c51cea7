/-! PURE: the law's heads, 16 down to 0 *)  -/
theorem st_ifp {σ T τ : Blk} {B : Nat → Blk} {nb x : Nat} {s : Nat → Int} {v p k : Int} (h : INV σ B nb T τ) (hs : ∀ j, j < 763 → τ 1 j = s j) (hx : x ≤ 16) (hr : ∀ τ : Blk, (∀ j, j < 763 → τ 1 j = s j) → REFH s τ x v p k) {w : Int} (hw : 0 ≤ w ∧ w ≤ 2) : ∃ σ' B' nb' τ', g_X4_ifPacked σ B nb x w = some (if w = 0 then v else if w = 1 then p else k, σ', B', nb') ∧ INV σ' B' nb' T τ' ∧ ∀ j, j < 763 → τ' 1 j = s j := by
  obtain ⟨hR, hI⟩ := h
  obtain ⟨u, σ', B', nb', τ', s1, s2, s3⟩ := ifPacked_ok hR x w
  obtain ⟨B'', g1, g2⟩ := to_g b_ifPacked s1
  obtain ⟨τ2, a1, a2⟩ := (hr τ hs).2 w
  have hf : f_X5_ifPacked τ x w = some (if w = 0 then v else if w = 1 then p else k, τ2) := by
    unfold f_X5_ifPacked
    rw [x5_within, if_neg (by omega), if_neg (by omega), bs, if_neg (by decide), x5_within, if_neg (by omega), if_neg (by omega), bs, if_neg (by decide), a1, bd2_t]
  have e := Prod.mk.inj (Option.some.inj (hf.symm.trans s2))
  refine ⟨σ', B'', nb', τ', by rw [g1, e.1], ⟨by rw [g2]; exact s3, ?_⟩, fun j hj => by rw [← e.2]; exact a2 j hj⟩
  rw [← e.2]
  exact hI.congr (fun _ _ => rfl) (fun j hj => by rw [a2 j hj, hs j hj])
/-- the best head so far: heads from x up are looked at -/
def BS (C : Nat → Int) (dead : Prop) (x : Nat) (b c : Int) : Prop := (b = -6 ∧ (dead ∨ x = 17)) ∨ (¬ dead ∧ ∃ y : Nat, b = y ∧ x ≤ y ∧ y ≤ 16 ∧ y % 2 = 0 ∧ c = C y ∧ ∀ z, x ≤ z → z ≤ 16 → z % 2 = 0 → C y ≤ C z ∧ (z < y → C y < C z))
theorem BS.odd {C : Nat → Int} {dead : Prop} {x : Nat} {b c : Int} (h : BS C dead (x + 1) b c) (ho : x % 2 = 1) : BS C dead x b c := by
  rcases h with ⟨h1, h2⟩ | ⟨h1, y, h2, h3, h4, h5, h6, h7⟩
  · exact Or.inl ⟨h1, h2.imp id (fun z => by omega)⟩
  · exact Or.inr ⟨h1, y, h2, by omega, h4, h5, h6, fun z z1 z2 z3 => h7 z (by omega) z2 z3⟩
theorem BS.dead {C : Nat → Int} {dead : Prop} {x : Nat} {b c : Int} (h : BS C dead (x + 1) b c) (hd : dead) : BS C dead x b c := by
  rcases h with ⟨h1, h2⟩ | ⟨h1, -⟩
  · exact Or.inl ⟨h1, Or.inl hd⟩
  · exact absurd hd h1
theorem BS.new {C : Nat → Int} {dead : Prop} {x : Nat} {b c : Int} (h : BS C dead (x + 1) b c) (hd : ¬ dead) (he : x % 2 = 0) (hx : x ≤ 16) (hb : b < 0 ∨ C x ≤ c) : BS C dead x x (C x) := by
  refine Or.inr ⟨hd, x, rfl, Nat.le_refl _, hx, he, rfl, fun z z1 z2 z3 => ⟨?_, fun z4 => by omega⟩⟩
  by_cases e : z = x
  · rw [e]
    exact Int.le_refl _
  · rcases h with ⟨h1, h2⟩ | ⟨h1, y, h2, h3, h4, h5, h6, h7⟩
    · rcases h2 with h2 | h2
      · exact absurd h2 hd
      · omega
    · have := (h7 z (by omega) z2 z3).1
      omega
theorem BS.old {C : Nat → Int} {dead : Prop} {x : Nat} {b c : Int} (h : BS C dead (x + 1) b c) (hd : ¬ dead) (hb : ¬ b < 0) (hc : ¬ C x ≤ c) : BS C dead x b c := by
  rcases h with ⟨h1, h2⟩ | ⟨h1, y, h2, h3, h4, h5, h6, h7⟩
  · omega
  · refine Or.inr ⟨h1, y, h2, by omega, h4, h5, h6, fun z z1 z2 z3 => ?_⟩
    by_cases e : z = x
    · rw [e]
      exact ⟨by omega, fun _ => by omega⟩
    · exact h7 z (by omega) z2 z3
def hdTail (r1 : Int) (j2 : Int → Blk → (Nat → Blk) → Nat → Blk → Option (Int × Dp)) (m : Nat) (x39 x40 x41 r49 x51 : Int) (σ53 : Blk) (B54 : Nat → Blk) (N55 : Nat) (τ56 : Blk) : Option (Int × Dp) :=
  jp (fun (x58 : Int) (x59 : Int) =>
    Option.bind (ck (x41 + (-1))) fun v60 =>
    g_L_would_L19 r1 j2 m x58 x59 v60 σ53 B54 N55 τ56) fun j57 =>
  if r49 = 0 then (
    j57 x39 x40) else (
    Option.bind (rm_ x41 2) fun v61 =>
    if v61 = 1 then (
      j57 x39 x40) else (
      Option.bind (ld τ56 0 4 2) fun v62 =>
      if v62 = 0 then (
        j57 x39 x40) else (
        jp (
          j57 x41 x51) fun j63 =>
        if x39 < 0 then (
          j63) else (
          if x51 ≤ x40 then (
            j63) else (
            j57 x39 x40)))))
theorem hdTail_ok {r1 : Int} {j2 : Int → Blk → (Nat → Blk) → Nat → Blk → Option (Int × Dp)} {m x : Nat} {b c : Int} {C : Nat → Int} {s : Nat → Int} {T : Blk} (hx : x ≤ 16) (hT : T 0 2 = s 2) (h : BS C (s 2 = 0) (x + 1) b c) (σ : Blk) (B : Nat → Blk) (nb : Nat) : ∃ b' c', hdTail r1 j2 m b c x 1 (C x) σ B nb T = g_L_would_L19 r1 j2 m b' c' ((x : Int) - 1) σ B nb T ∧ BS C (s 2 = 0) x b' c' := by
  unfold hdTail
  have hk : (x : Int) + -1 = (x : Int) - 1 := by omega
  rw [jp_t, if_neg (by decide), rm_t (by omega), bs]
  dsimp only
  rw [hk, ck_t (by omega), bs, bs]
  by_cases e1 : (x : Int) % 2 = 1
  · rw [if_pos e1]
    exact ⟨b, c, rfl, h.odd (by omega)⟩
  rw [if_neg e1, ld_t 2 (by omega) (by omega), bs, hT]
  by_cases e2 : s 2 = 0
  · rw [if_pos e2]
    exact ⟨b, c, rfl, h.dead e2⟩
  rw [if_neg e2, jp_t]
  by_cases e3 : b < 0
  · rw [if_pos e3]
    exact ⟨x, C x, rfl, h.new e2 (by omega) hx (Or.inl e3)⟩
  rw [if_neg e3]
  by_cases e4 : C x ≤ c
  · rw [if_pos e4]
    exact ⟨x, C x, rfl, h.new e2 (by omega) hx (Or.inr e4)⟩
  rw [if_neg e4]
  exact ⟨b, c, rfl, h.old e2 e3 e4⟩
theorem heads_loop {r1 : Int} {j2 : Int → Blk → (Nat → Blk) → Nat → Blk → Option (Int × Dp)} {C P K : Nat → Int} {s : Nat → Int} (hH : ∀ x, x ≤ 16 → (∀ T, INVc T s → LAWH T x (C x) (P x) (K x)) ∧ ∀ τ : Blk, (∀ j, j < 763 → τ 1 j = s j) → REFH s τ x (C x) (P x) (K x)) : ∀ (x m : Nat) (b c : Int) (σ : Blk) (B : Nat → Blk) (nb : Nat) (T τ : Blk), x ≤ 17 → x < m → INV σ B nb T τ → (∀ j, j < 763 → τ 1 j = s j) → BS C (s 2 = 0) x b c → ∃ b' c' σ' B' nb' T' τ', g_L_would_L19 r1 j2 m b c ((x : Int) - 1) σ B nb T = j2 b' σ' B' nb' T' ∧ INV σ' B' nb' T' τ' ∧ (∀ j, j < 763 → τ' 1 j = s j) ∧ BS C (s 2 = 0) 0 b' c' := by
  intro x
  induction x with
  | zero =>
    intro m b c σ B nb T τ hx hm h hs hb
    obtain ⟨m, rfl⟩ : ∃ z, m = z + 1 := ⟨m - 1, by omega⟩
    refine ⟨b, c, σ, B, nb, T, τ, ?_, h, hs, hb⟩
    rw [g_L_would_L19, if_pos (by omega)]
  | succ x ih =>
    intro m b c σ B nb T τ hx hm h hs hb
    obtain ⟨m, rfl⟩ : ∃ z, m = z + 1 := ⟨m - 1, by omega⟩
    have hIs : INVc T s := h.2.congr (fun _ _ => rfl) (fun j hj => (hs j hj).symm)
    obtain ⟨T1, T', n', a1, a2, a3, a4, a5, a6, a7⟩ := (hH x (by omega)).1 T hIs
    have hI' : INVc T' s := hIs.congr a3 (fun _ _ => rfl)
    have hst : ∀ (σ1 : Blk) (B1 : Nat → Blk) (nb1 : Nat) (τ1 : Blk), INV σ1 B1 nb1 T' τ1 → (∀ j, j < 763 → τ1 1 j = s j) → ∃ b' c' σ' B' nb' T'' τ', hdTail r1 j2 m b c x 1 (C x) σ1 B1 nb1 T' = j2 b' σ' B' nb' T'' ∧ INV σ' B' nb' T'' τ' ∧ (∀ j, j < 763 → τ' 1 j = s j) ∧ BS C (s 2 = 0) 0 b' c' := fun σ1 B1 nb1 τ1 h1 hs1 => by
      obtain ⟨b1, c1, e1, e2⟩ := hdTail_ok (r1 := r1) (j2 := j2) (m := m) (T := T') (show x ≤ 16 by omega) hI'.2.2.1.2.2 hb σ1 B1 nb1
      rw [e1]
      exact ih m b1 c1 σ1 B1 nb1 T' τ1 (by omega) (by omega) h1 hs1 e2
    have hINV : ∀ {σ1 : Blk} {B1 : Nat → Blk} {nb1 : Nat} {T2 τ1 : Blk}, INV σ1 B1 nb1 T2 τ1 → (∀ j, j < 763 → τ1 1 j = s j) → INV σ1 B1 nb1 T' τ1 := fun h1 hs1 => ⟨h1.1, hI'.congr (fun _ _ => rfl) hs1⟩
    have hx1 : ((x + 1 : Nat) : Int) - 1 = (x : Int) := by omega
    rw [hx1, g_L_would_L19, if_neg (by omega), a1, bs, sw_t 0 (by omega) (by omega), bs, a2, bd2_t, jp_t, if_neg (by decide), ld_t 3 (by omega) (by omega), bs, a4.1, a5, bs]
    dsimp only
    rw [jp_t]
    by_cases e : (x : Int) = r1
    · obtain ⟨σ1, B1, nb1, τ1, p1, p2, p3⟩ := st_ifp (hINV h hs) hs (show x ≤ 16 by omega) (hH x (by omega)).2 (w := 0) (by omega)
      obtain ⟨σ2, B2, nb2, τ2, q1, q2, q3⟩ := st_ifp p2 p3 (show x ≤ 16 by omega) (hH x (by omega)).2 (w := 1) (by omega)
      obtain ⟨σ3, B3, nb3, τ3, r1', r2, r3⟩ := st_ifp q2 q3 (show x ≤ 16 by omega) (hH x (by omega)).2 (w := 2) (by omega)
      rw [if_pos rfl] at p1
      rw [if_neg (by decide), if_pos rfl] at q1
      rw [if_neg (by decide), if_neg (by decide)] at r1'
      rw [if_neg (fun z => z e), jp_t, a6, p1, bd4_t, if_neg (fun z => z rfl), q1, bd4_t, jp_t, if_neg (by decide)]
      dsimp only
      rw [if_neg (fun z => z rfl), r1', bd4_t, jp_t, if_neg (by decide), bs, a7, bs]
      dsimp only
      rw [if_pos rfl]
      exact hst σ3 B3 nb3 τ3 r2 r3
    · rw [if_pos e]
      exact hst σ B nb τ (hINV h hs) hs
