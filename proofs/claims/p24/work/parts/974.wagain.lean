/-! PURE: a row written again, by the law and by the reference *)  -/
theorem dropS_or {s p : Nat → Int} {j : Nat} : ∀ n, dropS s p n j = 0 ∨ dropS s p n j = s j
  | 0 => Or.inr rfl
  | n + 1 => by
    show us (dropS s p n) (363 + (p n).toNat) 0 j = 0 ∨ us (dropS s p n) (363 + (p n).toNat) 0 j = s j
    by_cases e : j = 363 + (p n).toNat
    · rw [e, us_s]
      exact Or.inl rfl
    · rw [us_n e]
      exact dropS_or n
theorem TT.mvs {T : Blk} {q t : Nat} {s : Nat → Int} {n i : Nat} (h : TT T q t s n) (hi : i < n) : ∃ a : Nat, a < 400 ∧ T t i / 65536 = a ∧ s (363 + a) = mv (T t i) ∧ kd (s (363 + a)) = T t i / 16384 % 4 ∧ rwo (s (363 + a)) = T t i / 2048 % 8 ∧ nro (s (363 + a)) = T t i / 32 % 64 ∧ s (363 + a) ≠ 0 := by
  obtain ⟨h1, h2, h3⟩ := h.2.1 i hi
  obtain ⟨d1, d2, d3, -⟩ := mv_dec h1.1
  have h4 := h.nz hi
  refine ⟨(T t i / 65536).toNat, by omega, by omega, h3, ?_, ?_, ?_, h4⟩
  · rw [h3]; exact d1
  · rw [h3]; exact d2
  · rw [h3]; exact d3
/-- a thing is found where it is -/
theorem find_at {T : Blk} {q t : Nat} {s : Nat → Int} {n a : Nat} {k r m l : Int} (h : TT T q t s n) (ha : a < 400) (hs : s (363 + a) = mk k r m l) (hk : 1 ≤ k ∧ k ≤ 3) (hr : 0 ≤ r ∧ r < 8) (hm : 0 ≤ m ∧ m < 64) (hl : 0 ≤ l ∧ l ≤ 16) (hu : ∀ b, b < 400 → s (363 + b) ≠ 0 → kd (s (363 + b)) = k → rwo (s (363 + b)) = r → nro (s (363 + b)) = m → b = a) : ∃ i : Nat, i < n ∧ g_L_find T k r m t 64 n = some (i : Int) ∧ T t i / 65536 = a := by
  have hd := mk_dec (r := r) hk ⟨hr.1, by omega⟩ hm hl
  rcases l_find h k r m with ⟨f1, f2⟩ | ⟨i, i1, i2, i3, i4, i5⟩
  · exfalso
    obtain ⟨i, i1, i2⟩ := h.2.2.2 a ha (by rw [hs]; exact hd.2.2.2.2.2)
    obtain ⟨b, b1, b2, b3, b4, b5, b6, -⟩ := h.mvs i1
    have e : b = a := by omega
    subst e
    rw [hs] at b4 b5 b6
    exact f2 i i1 ⟨by rw [← b4]; exact hd.1, by rw [← b5]; exact hd.2.1, by rw [← b6]; exact hd.2.2.1⟩
  · obtain ⟨b, b1, b2, b3, b4, b5, b6, b7⟩ := h.mvs i1
    refine ⟨i, i1, i2, ?_⟩
    rw [b2, hu b b1 b7 (by omega) (by omega) (by omega)]
theorem find_no {T : Blk} {q t : Nat} {s : Nat → Int} {n : Nat} {k r m : Int} (h : TT T q t s n) (hu : ∀ b, b < 400 → s (363 + b) ≠ 0 → kd (s (363 + b)) = k → rwo (s (363 + b)) = r → nro (s (363 + b)) = m → False) : g_L_find T k r m t 64 n = some (-1) := by
  rcases l_find h k r m with ⟨f1, f2⟩ | ⟨i, i1, i2, i3, i4, i5⟩
  · exact f1
  · obtain ⟨b, b1, b2, b3, b4, b5, b6, b7⟩ := h.mvs i1
    exact (hu b b1 b7 (by omega) (by omega) (by omega)).elim
theorem law_drops {q t r n : Nat} {T : Blk} {s at_ ho np : Nat → Int} {w : Nat → Prop} {pp : Nat → Nat → Int} (hqt : q ≠ t) (hr : r < 7) (hw : w r) (h : TT T q t s n) (hT : TK s) (hF : FI s w at_ ho np pp (fun _ => False)) : ∃ (n1 : Nat) (T1 : Blk), (∀ j26, g_L_write_L54 r q 4 t 64 j26 fu 0 T = j26 T1) ∧ TT T1 q t (dropS s (pp r) (np r).toNat) n1 ∧ n1 ≤ n ∧ (∀ c, c ≠ q → c ≠ t → T1 c = T c) ∧ (∀ j, j ≠ 3 → T1 q j = T q j) ∧ (∀ x : Nat, x ≠ r → Wg cl (dropS s (pp r) (np r).toNat) x = Wg cl s x ∧ Wg one (dropS s (pp r) (np r).toNat) x = Wg one s x) ∧ Us (dropS s (pp r) (np r).toNat) ≤ Us s ∧ TK (dropS s (pp r) (np r).toNat) := by
  obtain ⟨-, -, -, -, hn, hpp⟩ := hF.own (show r < 30 by omega) hw
  have key := loopSt (F := fun m (x : Nat) (z : Blk × Nat) => fun j26 => g_L_write_L54 r q 4 t 64 j26 m (x : Int) z.1) (P := fun x z => TT z.1 q t (dropS s (pp r) (min x (np r).toNat)) z.2 ∧ z.2 ≤ n ∧ (∀ c, c ≠ q → c ≠ t → z.1 c = T c) ∧ (∀ j, j ≠ 3 → z.1 q j = T q j) ∧ (∀ y : Nat, y ≠ r → Wg cl (dropS s (pp r) (min x (np r).toNat)) y = Wg cl s y ∧ Wg one (dropS s (pp r) (min x (np r).toNat)) y = Wg one s y) ∧ Us (dropS s (pp r) (min x (np r).toNat)) ≤ Us s ∧ TK (dropS s (pp r) (min x (np r).toNat))) (Q := fun o => ∃ (n1 : Nat) (T1 : Blk), (∀ j26, o j26 = j26 T1) ∧ TT T1 q t (dropS s (pp r) (np r).toNat) n1 ∧ n1 ≤ n ∧ (∀ c, c ≠ q → c ≠ t → T1 c = T c) ∧ (∀ j, j ≠ 3 → T1 q j = T q j) ∧ (∀ x : Nat, x ≠ r → Wg cl (dropS s (pp r) (np r).toNat) x = Wg cl s x ∧ Wg one (dropS s (pp r) (np r).toNat) x = Wg one s x) ∧ Us (dropS s (pp r) (np r).toNat) ≤ Us s ∧ TK (dropS s (pp r) (np r).toNat)) 41 (fun m x z hx hp => ?_) (fun m z hp => ?_) fu 0 (T, n) (by omega) (fu_lt (by omega)) ⟨by rw [Nat.zero_min]; exact h, Nat.le_refl _, fun _ _ _ => rfl, fun _ _ => rfl, fun y hy => by rw [Nat.zero_min]; exact ⟨rfl, rfl⟩, by rw [Nat.zero_min]; exact Int.le_refl _, by rw [Nat.zero_min]; exact hT⟩
  · exact key
  · obtain ⟨T0, n0⟩ := z
    obtain ⟨p1, p2, p3, p4, p5, p6, p7⟩ := hp
    dsimp only at p1 p2 p3 p4
    have hfind : ∀ b, b < 400 → dropS s (pp r) (min x (np r).toNat) (363 + b) ≠ 0 → kd (dropS s (pp r) (min x (np r).toNat) (363 + b)) = 2 → rwo (dropS s (pp r) (min x (np r).toNat) (363 + b)) = r → nro (dropS s (pp r) (min x (np r).toNat) (363 + b)) = x → (x : Int) < np r ∧ pp r x = b := fun b hb h0 h1 h2 h3 => by
      rcases dropS_or (s := s) (p := pp r) (j := 363 + b) (min x (np r).toNat) with e | e
      · exact absurd e h0
      · rw [e] at h1 h2 h3
        obtain ⟨i, i1, i2, i3, -⟩ := hF.find hb (show r < 30 by omega) h1 h2
        have ei : i = x := by omega
        subst ei
        exact ⟨i1, i3⟩
    have hstep : ∀ (T2 : Blk) (n2 : Nat) (k : Int), g_L_find T0 2 r x t 64 n0 = some k → g_L_drop T0 k t 64 q 4 = some T2 → ∀ j26, g_L_write_L54 r q 4 t 64 j26 (m + 1) (x : Int) T0 = g_L_write_L54 r q 4 t 64 j26 m ((x + 1 : Nat) : Int) T2 := fun T2 n2 k hk hd j26 => by
      rw [g_L_write_L54, if_neg (by omega), ld_t 3 (by omega) (by omega), bs, p1.1.1, hk, bs, hd, bs, ck_t (by omega), bs]
      rfl
    by_cases e : (x : Int) < np r
    · obtain ⟨h8, l, l1, l2, l3⟩ := hpp x e
      rw [show min x (np r).toNat = x by omega] at p1 p5 p6 p7 hfind
      have hout : dropS s (pp r) x (363 + (pp r x).toNat) = mk 2 r x l := by
        rw [dropS_out (fun i hi z => ?_), l3]
        obtain ⟨-, l', l1', l2', l3'⟩ := hpp i (by omega)
        have e9 : (pp r i).toNat = (pp r x).toNat := by omega
        rw [e9, l3] at l3'
        have d1 := (mk_dec (k := 2) (r := (r : Int)) (n := (x : Int)) (l := l) (by omega) (by omega) (by omega) (by omega)).2.2.1
        have d2 := (mk_dec (k := 2) (r := (r : Int)) (n := (i : Int)) (l := l') (by omega) (by omega) (by omega) (by omega)).2.2.1
        rw [l3', d2] at d1
        omega
      obtain ⟨i, i1, i2, i3⟩ := find_at p1 (a := (pp r x).toNat) (by omega) hout (by omega) (by omega) (by omega) (by omega) (fun b b1 b2 b3 b4 b5 => by have := hfind b b1 b2 b3 b4 b5; omega)
      obtain ⟨n', T', c1, c2, c3, c4, c5, -⟩ := p1.drop hqt i1 i3
      have hS : us (dropS s (pp r) x) (363 + (pp r x).toNat) 0 = dropS s (pp r) (x + 1) := rfl
      have hq4 : (pp r x).toNat < 400 := by omega
      have hwx : ∀ (g : Int → Int) (g0 : g 0 = 0) (y : Nat), y ≠ r → Wg g (dropS s (pp r) (x + 1)) y = Wg g (dropS s (pp r) x) y := fun g g0 y hy => by
        rw [← hS, Wg_us hq4, hout, wv_0 g0, wv_mk (by omega) (by omega) (by omega) (by omega), if_neg (Ne.symm hy)]
        omega
      refine ⟨(T', n'), funext (hstep T' n' i i2 c2), ?_, by dsimp only; omega, fun c d1 d2 => (c4 c d1 d2).trans (p3 c d1 d2), fun j hj => (c5 j hj).trans (p4 j hj), fun y hy => ?_, ?_, ?_⟩
      · rw [show min (x + 1) (np r).toNat = x + 1 by omega, ← hS]
        exact c3
      · rw [show min (x + 1) (np r).toNat = x + 1 by omega, hwx cl cl_0 y hy, hwx one one_0 y hy]
        exact p5 y hy
      · have hc := mk_cl2 (r := (r : Int)) (n := (x : Int)) (l := l) (by omega) (by omega) (by omega)
        rw [show min (x + 1) (np r).toNat = x + 1 by omega, ← hS, Us_us hq4, hout, hc, cl_0]
        omega
      · rw [show min (x + 1) (np r).toNat = x + 1 by omega, ← hS]
        exact p7.us (Or.inl rfl)
    · have hno := find_no p1 (k := 2) (r := (r : Int)) (m := (x : Int)) (fun b b1 b2 b3 b4 b5 => e (hfind b b1 b2 b3 b4 b5).1)
      have hd : g_L_drop T0 (-1) t 64 q 4 = some T0 := by
        unfold g_L_drop
        rw [if_pos (by decide)]
      rw [show min x (np r).toNat = (np r).toNat by omega] at p1 p5 p6 p7
      refine ⟨(T0, n0), funext (hstep T0 n0 _ hno hd), ?_, p2, p3, p4, ?_, ?_, ?_⟩
      · rw [show min (x + 1) (np r).toNat = (np r).toNat by omega]
        exact p1
      · rw [show min (x + 1) (np r).toNat = (np r).toNat by omega]
        exact p5
      · rw [show min (x + 1) (np r).toNat = (np r).toNat by omega]
        exact p6
      · rw [show min (x + 1) (np r).toNat = (np r).toNat by omega]
        exact p7
  · obtain ⟨T0, n0⟩ := z
    obtain ⟨p1, p2, p3, p4, p5, p6, p7⟩ := hp
    rw [show min 41 (np r).toNat = (np r).toNat by omega] at p1 p5 p6 p7
    refine ⟨n0, T0, fun j26 => ?_, p1, p2, p3, p4, p5, p6, p7⟩
    show g_L_write_L54 r q 4 t 64 j26 (m + 1) ((41 : Nat) : Int) T0 = _
    rw [g_L_write_L54, if_pos (by omega)]
