/-! PURE: most: 40 letters always find room *)  -/
theorem INVc.low {T : Blk} {s : Nat → Int} (h : INVc T s) : fz s < 7 ∧ pt s (fz s) 0 = 0 ∧ ∀ x, x < fz s → pt s x 0 = 1 := by
  have h6 : pt s 6 0 = 0 := h.2.1.2 6 (by omega) (by omega)
  have h7 : fz s < 7 := by
    rcases Nat.lt_or_ge (fz s) 7 with z | z
    · exact z
    · exact absurd h6 (firstZ_nz (f := fun r => pt s r 0) 30 0 6 (by omega) (by unfold fz at z; omega))
  refine ⟨h7, firstZ_z (f := fun r => pt s r 0) 30 0 (by unfold fz at h7; omega), fun x hx => ?_⟩
  have hn : pt s x 0 ≠ 0 := firstZ_nz (f := fun r => pt s r 0) 30 0 x (by omega) (by unfold fz at hx; omega)
  rcases h.2.1.1 x (by omega) with ⟨z, -⟩ | ⟨z, -⟩
  · exact z
  · exact absurd z hn
theorem addS_lo {s : Nat → Int} {r : Nat} {a : Int} (hr : r < 30) : (∀ p, addS s r a (363 + p) = s (363 + p)) ∧ addS s r a 0 = s 0 ∧ addS s r a 1 = s 1 ∧ addS s r a 2 = s 2 + 1 := by
  unfold addS
  refine ⟨fun p => by rw [us_n (by omega), us_n (by omega), us_n (by omega)], by rw [us_n (by omega), us_n (by omega), us_n (by omega)], by rw [us_n (by omega), us_n (by omega), us_n (by omega)], us_s⟩
/-- a new row is written -/
theorem writes_new {q t ir n rem : Nat} {T0 T u β : Blk} {a len : Int} (hqt : q ≠ t) (hqi : q ≠ ir) (hit : ir ≠ t) (hI : INVc T0 (u 1)) (hB : RB β (u 1)) (ha : 0 ≤ a ∧ a < 100) (hk : rk β a = -1) (hT : TT T q t (u 1) n) (hS0 : T q 0 = u 1 0) (hS1 : T q 1 = u 1 1) (h10 : u 0 10 = len) (hlen : 0 ≤ len ∧ len ≤ 40) (htold : ∀ k : Nat, (k : Int) < len → 0 ≤ u 8 k ∧ u 8 k < 32) (hrem : len ≤ 4 * rem ∧ rem ≤ 10) : ∃ T' τ' u17, f_X5_writes u a = some (1, τ') ∧ g_L_write T (fz (u 1)) len 1 q 4 ir 28 t 64 = some (1, T') ∧ WEnd q t ir (fz (u 1)) rem n len T T' u17 τ' (u17 1) ∧ u17 1 = addS (u 1) (fz (u 1)) a ∧ (∀ c, c ≠ 1 → c ≠ 3 → u17 c = u c) ∧ n ≤ 48 ∧ Us (u 1) ≤ 198 ∧ Wg cl (u 1) 6 = 0 ∧ Wg one (u 1) 6 = 0 := by
  obtain ⟨z7, z0, -⟩ := hI.low
  obtain ⟨⟨hS, hRW, hP, hF, hLI, hZ, hW⟩, -⟩ := id hB
  obtain ⟨us1, us2⟩ := INVc.us (T := T0) (fun x hx hw => (hI.2.1.live hx hw).1) hI.2.2.2.2.1 hF
  have hn : n ≤ 48 := by
    obtain ⟨n0, a1⟩ := hI.1
    have h1 := us2 n0 a1
    have h2 := a1.cnt
    have h3 := hT.cnt
    omega
  have hw : ∀ (g : Int → Int) (g0 : g 0 = 0) r, ¬ (r < 30 ∧ isr (u 1) r) → Wg g (u 1) r = 0 := fun g g0 r hr => w_no g0 hF hr
  obtain ⟨u3, m1, m2, m3, -⟩ := x5_moves (σ := u) (i1 := 1) (n1 := 763) (i3 := 3) (n3 := 763) (a2 := 0) (a4 := 0) 0 0 (by omega) (by omega) (by omega) (by omega) (by omega)
  have e1 : u3 1 = u 1 := m2 1 (by omega)
  have hs2 := hRW.s2
  have hne := (fz_lt hRW).mp (show fz (u 1) < 30 by omega)
  have hnz : ¬ (fz (u 1) < 30 ∧ isr (u 1) (fz (u 1))) := fun z => by
    have : pt (u 1) (fz (u 1)) 0 = 1 := z.2
    omega
  have hn6 : ¬ (6 < 30 ∧ isr (u 1) 6) := fun z => by
    have h1 : pt (u 1) 6 0 = 1 := z.2
    have h2 := hI.2.1.2 6 (by omega) (by omega)
    omega
  obtain ⟨r, hr⟩ : ∃ r, fz (u 1) = r := ⟨_, rfl⟩
  rw [hr] at z7 z0 hnz ⊢
  obtain ⟨u17, hu⟩ : ∃ u17, up2 (up2 (up2 u3 1 (3 + (12 * r + 0)) 1) 1 (3 + (12 * r + 1)) a) 1 2 (u 1 2 + 1) = u17 := ⟨_, rfl⟩
  have hu1 : u17 1 = addS (u 1) r a := by
    rw [← hu, up2_row, up2_row, up2_row, e1]
    rfl
  have huc : ∀ c, c ≠ 1 → u17 c = u3 c := fun c hc => by rw [← hu, up2_ne hc, up2_ne hc, up2_ne hc]
  obtain ⟨l1, l2, l3, l4⟩ := addS_lo (s := u 1) (r := r) (a := a) (by omega)
  have hWg : ∀ (g : Int → Int) x, Wg g (u17 1) x = Wg g (u 1) x := fun g x => Wg_congr (fun p _ => by rw [hu1]; exact l1 p)
  have hUs : Us (u17 1) = Us (u 1) := sumN_congr (fun p _ => by
    show cl (u17 1 (363 + p)) = cl (u 1 (363 + p))
    rw [hu1, l1 p])
  obtain ⟨T', τ', f1, f2, f3⟩ := lw_new (q := q) (t := t) (ir := ir) (r := r) (n := n) (rem := rem) (len := len) (T := T) (τ := u17) hqt hqi hit z7 (hT.congr rfl (fun _ _ => rfl) (fun p _ => by rw [hu1]; exact l1 p)) (fun p hp => by rw [hu1, l1 p]; exact hP.1 p hp) (by rw [huc 0 (by omega), m2 0 (by omega)]; exact h10) hlen (fun k hk => by rw [huc 8 (by omega), m2 8 (by omega)]; exact htold k hk) (by rw [hu1, l2]; exact ⟨hS0, hS.1.2⟩) (by rw [hu1, l3]; exact ⟨hS1, hI.2.2.2.2.2, hS.2.1.2.2⟩) hrem (by omega) (by omega) (by rw [hWg, hWg]; exact ⟨hw cl cl_0 r hnz, hw one one_0 r hnz⟩)
  refine ⟨T', τ', u17, ?_, f2, f3, hu1, fun c c1 c3 => by rw [huc c c1, m2 c c3], hn, us1, hw cl cl_0 6 hn6, hw one one_0 6 hn6⟩
  unfold f_X5_writes
  have hfr := x5_freeRow (σ := u3) (by rw [e1, hr]; omega)
  rw [e1, hr] at hfr
  have e2 : up2 (up2 u3 1 (3 + (12 * r + 0)) 1) 1 (3 + (12 * r + 1)) a 1 2 = u 1 2 := by rw [up2_n (by omega), up2_n (by omega), e1]
  rw [x5_rowWith hRW, hk, if_pos rfl, bs, jp_t, if_neg (by decide), ld_t 2 (by omega) (by omega), bs, if_pos hne, m1, bs, jp_t, if_neg (by decide), hfr, bs, x5_setPart r 0 rfl (by omega) (by omega) (by omega), bs, x5_setPart r 1 rfl (by omega) (by omega) (by omega), bs, ld_t 2 (by omega) (by omega), bs, e2, ck_t (by omega), bs, sw_t 2 (by omega) (by omega), bs, hu, f1, bd2_t]
  dsimp only
  rw [if_pos (show (1 : Int) ≠ 0 by decide), ckB_t (Or.inr rfl), bs]
