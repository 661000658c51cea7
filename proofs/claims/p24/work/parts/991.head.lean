/-! PURE: what it would cost with another head, by the law and by the reference *)  -/
def LAWH (T : Blk) (x : Nat) (v p k : Int) : Prop := ∃ (T1 T' : Blk) (n' : Nat), g_L_copy T 0 4 1 28 2 64 3 4 4 28 5 64 = some T1 ∧ g_L_pack (up2 T1 3 0 x) 3 4 4 28 5 64 = some (1, T') ∧ (∀ c, c = 0 ∨ c = 1 ∨ c = 2 ∨ c = 6 → T' c = T c) ∧ (T' 3 3 = n' ∧ n' ≤ 64) ∧ g_L_costs T' 4 28 5 64 n' = some v ∧ (∀ j, g_L_would_L90 T' j fu 0 0 = j p) ∧ g_L_kinds T' 2 5 64 n' = some k
def REFH (s : Nat → Int) (τ : Blk) (x : Nat) (v p k : Int) : Prop := 0 ≤ v ∧ ∀ w : Int, ∃ τ2, f_X5_packedWith τ x w = some (if w = 0 then v else if w = 1 then p else k, τ2) ∧ ∀ j, j < 763 → τ2 1 j = s j
theorem LAWH.inj {T : Blk} {x : Nat} {v p k v' p' k' : Int} (h : LAWH T x v p k) (h' : LAWH T x v' p' k') : v' = v ∧ p' = p ∧ k' = k := by
  obtain ⟨T1, T2, n, a1, a2, -, a4, a5, a6, a7⟩ := h
  obtain ⟨T1', T2', n', b1, b2, -, b4, b5, b6, b7⟩ := h'
  rw [a1] at b1
  injection b1 with b1
  subst b1
  rw [a2] at b2
  injection b2 with b2
  injection b2 with _ b2
  subst b2
  have en : n' = n := by omega
  subst en
  rw [a5] at b5
  rw [a7] at b7
  injection b5 with b5
  injection b7 with b7
  have e := (a6 (fun p => some (p, (T2, fun _ => T2, 0, T2)))).symm.trans (b6 (fun p => some (p, (T2, fun _ => T2, 0, T2))))
  injection e with e
  injection e with e
  exact ⟨b5.symm, e.symm, b7.symm⟩
theorem REFH.inj {s : Nat → Int} {τ : Blk} {x : Nat} {v p k v' p' k' : Int} (h : REFH s τ x v p k) (h' : REFH s τ x v' p' k') : v' = v ∧ p' = p ∧ k' = k := by
  have key : ∀ w : Int, (if w = 0 then v' else if w = 1 then p' else k') = if w = 0 then v else if w = 1 then p else k := fun w => by
    obtain ⟨τ2, a1, -⟩ := h.2 w
    obtain ⟨τ3, b1, -⟩ := h'.2 w
    exact (Prod.mk.inj (Option.some.inj (a1.symm.trans b1))).1.symm
  exact ⟨key 0, key 1, key 2⟩
theorem pk_head {β : Blk} {s : Nat → Int} {T τ : Blk} {x : Nat} (hI : INVc T s) (hB : RB β s) (hx : x ≤ 16) (hτ : ∀ j, j < 763 → τ 1 j = s j) : ∃ v p k, LAWH T x v p k ∧ REFH s τ x v p k := by
  obtain ⟨T1, c1, c2, c3, c4, c5⟩ := l_copy (T := T)
  obtain ⟨τ1, m1, m2, m3, -⟩ := x5_moves (σ := τ) (i1 := 1) (n1 := 763) (i3 := 2) (n3 := 763) (a2 := 0) (a4 := 0) 0 0 (by omega) (by omega) (by omega) (by omega) (by omega)
  have hs0 : ∀ j, j < 763 → up2 τ1 1 0 x 1 j = us s 0 x j := fun j hj => by
    rw [up2_row, m2 1 (by omega)]
    by_cases e : j = 0
    · rw [e, us_s, us_s]
    · rw [us_n e, us_n e, hτ j hj]
  have hB0 : RB (up2 β 0 0 x) (us s 0 (x : Int)) := rb_set (Or.inl ⟨rfl, by omega, by omega⟩) hB
  have hp : ∀ y k, y < 30 → k < 12 → pt (us s 0 (x : Int)) y k = pt s y k := fun y k hy hk => pt_us2 (by omega) hy hk
  have hC : PC (up2 β 0 0 x) (us s 0 (x : Int)) := ⟨hB0.1.2.1, fun y hy hi => by
    rw [hp y 0 hy (by omega)] at hi
    rw [hp y 2 hy (by omega)]
    exact ⟨(hI.2.1.live hy hi).1, (hI.2.1.live hy hi).2.2.2.1⟩, by rw [us_s]; omega, by rw [us_n (by omega)]; exact ⟨hI.2.2.2.2.2, hB.1.1.2.1.2.2⟩⟩
  obtain ⟨i0, i1, i2⟩ := hI.2.2.1
  have hg : ∀ c, c ≠ 3 → up2 T1 3 0 (x : Int) c = T1 c := fun c hc => up2_ne hc
  obtain ⟨n', T', τ', w1, w2, w3, w4, w5, w6⟩ := law_packs (q := 3) (t := 5) (ir := 4) (T := up2 T1 3 0 x) (τ := up2 τ1 1 0 x) (by omega) (by omega) (by omega) hC (fun j hj => hs0 j (by omega)) (fun y hy => by
    rw [hg 4 (by omega), c4 _ (by omega), c4 _ (by omega), hp y 0 (by omega) (by omega), hp y 1 (by omega) (by omega), hp y 2 (by omega) (by omega)]
    rcases hI.2.1.1 y hy with ⟨a1, a2, a3, -⟩ | z
    · exact Or.inl ⟨a1, a2, a3⟩
    · exact Or.inr z) (by
    rw [up2_s, up2_n (by omega), up2_n (by omega), c3 1 (by omega), c3 2 (by omega), us_s, us_n (by omega), us_n (by omega)]
    exact ⟨rfl, i1, i2⟩) (fun y hy hi => ((hB0.1.2.2.2.2.1 y hy hi).2.2.1))
  rcases pack_all (β := up2 β 0 0 x) (τ := up2 τ1 1 0 x) (hB0.congrS hs0) with ⟨β', τ'', f1, f2, f3, -⟩ | ⟨β', τ'', f1, f2, -⟩
  · rw [w2] at f2
    injection f2 with f2
    injection f2 with _ f2
    subst f2
    have hT' : TT T' 3 5 (τ' 1) n' := w3.1
    have hTK : TK (τ' 1) := w3.2.1
    have hp' : ∀ y k, y < 30 → k < 3 → pt (τ' 1) y k = pt (us s 0 (x : Int)) y k := w3.2.2.2.2.2.2.2.1
    have hL' : LRow T' 4 (τ' 1) := ⟨fun y hy => by
      rw [hp' y 0 (by omega) (by omega), hp' y 1 (by omega) (by omega), hp' y 2 (by omega) (by omega)]
      rcases w3.2.2.1 y hy with ⟨a1, a2, a3, a4⟩ | z
      · have hk := hC.1.of (show y < 30 by omega) a1
        obtain ⟨a5, a6⟩ := a4 (by omega)
        exact Or.inl ⟨a1, a2, a3, (hC.2.1 y (by omega) a1).2, a5, a6⟩
      · exact Or.inr z, fun y y1 y2 => by
      rw [hp' y 0 y2 (by omega)]
      have h3 := hC.1.is y2
      have h4 := hC.2.1 y y2
      omega⟩
    obtain ⟨z, z1, z2⟩ := x5_sumOfCosts f3.1
    refine ⟨sumN (cs β' (τ' 1)) 30, sumN (fun p => if (slT (τ' 1) p : Int) ≤ 0 then 0 else 1) 10, sumN (fun p => onT (τ' 1) p 2) 10, ⟨T1, T', n', c1, w1, fun c hc => ?_, ⟨hT'.1.1, hT'.1.2⟩, l_costs hT' f3.1 hL', fun j => law_pages3 hT' hTK j, ?_⟩, sumN_nonneg (fun i hi => (f3.1.cs hi).1), fun w => ?_⟩
    · rw [w4 c (by omega) (by omega) (by omega), hg c (by omega), c2 c (by omega) (by omega) (by omega)]
    · rw [l_kinds hT' (by decide), kinds_onT hTK (by decide)]
    · have back : ∀ z, Fz τ' z → ∃ τ2, f_X5_moves z 2 763 0 1 763 0 = some τ2 ∧ ∀ j, j < 763 → τ2 1 j = s j := fun z hz => by
        obtain ⟨τ2, n1, n2, n3, -⟩ := x5_moves (σ := z) (i1 := 2) (n1 := 763) (i3 := 1) (n3 := 763) (a2 := 0) (a4 := 0) 0 0 (by omega) (by omega) (by omega) (by omega) (by omega)
        refine ⟨τ2, n1, fun j hj => ?_⟩
        have h1 := n3 j hj
        have h2 := m3 j hj
        rw [Nat.zero_add] at h1 h2
        rw [h1, hz.1 2 (by omega) (by omega), w5 2 (by omega) (by omega) (by omega) (by omega), up2_ne (by omega), h2, hτ j hj]
      have hpw : f_X5_packedWith τ x w = (if w ≠ 0 then (if w ≠ 1 then Option.bind (f_X5_thingsOf τ' 2) fun r9 => Option.bind (f_X5_moves τ' 2 763 0 1 763 0) fun σ8 => some (r9, σ8) else Option.bind (f_X5_pagesWith τ') fun r10 => Option.bind (f_X5_moves τ' 2 763 0 1 763 0) fun σ8 => some (r10, σ8)) else bd2 (f_X5_sumOfCosts τ') fun r11 σ12 => Option.bind (f_X5_moves σ12 2 763 0 1 763 0) fun σ8 => some (r11, σ8)) := by
        unfold f_X5_packedWith
        rw [m1, bs, sw_t 0 (by omega) (by omega), bs, w2, bd2_t, jp_t, if_pos (show (1 : Int) ≠ 0 by decide)]
      rw [hpw]
      by_cases w0 : w = 0
      · obtain ⟨τ2, k1, k2⟩ := back z z2
        rw [if_neg (show ¬ w ≠ 0 by omega), z1, bd2_t, k1, bs, if_pos w0]
        exact ⟨τ2, rfl, k2⟩
      · obtain ⟨τ2, k1, k2⟩ := back τ' Fz.rf
        rw [if_pos (show w ≠ 0 from w0), if_neg w0]
        by_cases w1 : w = 1
        · rw [if_neg (show ¬ w ≠ 1 by omega), x5_pagesWith, bs, k1, bs, if_pos w1]
          exact ⟨τ2, rfl, k2⟩
        · rw [if_pos (show w ≠ 1 from w1), x5_thingsOf hTK, bs, k1, bs, if_neg w1]
          exact ⟨τ2, rfl, k2⟩
  · rw [w2] at f2
    injection f2 with f2
    injection f2 with f2
    omega
/-- one value for each head, whatever else the tables and the ints hold -/
theorem heads {β : Blk} {s : Nat → Int} {T0 : Blk} (hI : INVc T0 s) (hB : RB β s) : ∃ C P K : Nat → Int, ∀ x, x ≤ 16 → (∀ T, INVc T s → LAWH T x (C x) (P x) (K x)) ∧ ∀ τ : Blk, (∀ j, j < 763 → τ 1 j = s j) → REFH s τ x (C x) (P x) (K x) := by
  have key : ∀ x : Nat, ∃ r : Int × Int × Int, x ≤ 16 → (∀ T, INVc T s → LAWH T x r.1 r.2.1 r.2.2) ∧ ∀ τ : Blk, (∀ j, j < 763 → τ 1 j = s j) → REFH s τ x r.1 r.2.1 r.2.2 := fun x => by
    by_cases hx : x ≤ 16
    · obtain ⟨v, p, k, a1, a2⟩ := pk_head (τ := fun _ => s) hI hB hx (fun _ _ => rfl)
      refine ⟨(v, p, k), fun _ => ⟨fun T hT => ?_, fun τ hτ => ?_⟩⟩
      · obtain ⟨v', p', k', b1, b2⟩ := pk_head (τ := fun _ => s) hT hB hx (fun _ _ => rfl)
        obtain ⟨rfl, rfl, rfl⟩ := a2.inj b2
        exact b1
      · obtain ⟨v', p', k', b1, b2⟩ := pk_head (τ := τ) hI hB hx hτ
        obtain ⟨rfl, rfl, rfl⟩ := a1.inj b1
        exact b2
    · exact ⟨(0, 0, 0), fun z => absurd z hx⟩
  refine ⟨fun x => (Classical.choose (key x)).1, fun x => (Classical.choose (key x)).2.1, fun x => (Classical.choose (key x)).2.2, fun x hx => Classical.choose_spec (key x) hx⟩
