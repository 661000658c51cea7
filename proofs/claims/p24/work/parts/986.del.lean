/-! PURE: delete, by the reference and by the law *)  -/
theorem Wg_drops {s at_ ho np : Nat → Int} {w : Nat → Prop} {pp : Nat → Nat → Int} {E : Nat → Prop} (h : FI s w at_ ho np pp E) {r : Nat} (hr : r < 30) (hw : w r) : ∀ m : Nat, (m : Int) ≤ np r → Wg cl (dropS s (pp r) m) r = Wg cl s r - sumN (fun i => cl (s (363 + (pp r i).toNat))) m := by
  obtain ⟨-, -, -, -, hn, hpp⟩ := h.own hr hw
  intro m
  induction m with
  | zero =>
    intro _
    show Wg cl s r = Wg cl s r - 0
    omega
  | succ m ih =>
    intro hm
    have h1 := ih (by omega)
    obtain ⟨h8, l, l1, l2, l3⟩ := hpp m (by omega)
    have hout : dropS s (pp r) m (363 + (pp r m).toNat) = mk 2 r m l := by
      rw [dropS_out (fun i hi z => ?_), l3]
      obtain ⟨-, l', l1', l2', l3'⟩ := hpp i (by omega)
      have e9 : (pp r i).toNat = (pp r m).toNat := by omega
      rw [e9, l3] at l3'
      have d1 := (mk_dec (k := 2) (r := (r : Int)) (n := (m : Int)) (l := l) (by omega) (by omega) (by omega) (by omega)).2.2.1
      have d2 := (mk_dec (k := 2) (r := (r : Int)) (n := (i : Int)) (l := l') (by omega) (by omega) (by omega) (by omega)).2.2.1
      rw [l3', d2] at d1
      omega
    show Wg cl (us (dropS s (pp r) m) (363 + (pp r m).toNat) 0) r = Wg cl s r - (sumN (fun i => cl (s (363 + (pp r i).toNat))) m + cl (s (363 + (pp r m).toNat)))
    rw [Wg_us (by omega), hout, wv_0 cl_0, wv_mk (by omega) hr (by omega) (by omega), if_pos rfl, l3, h1]
    omega
theorem del_ref {β τ : Blk} (h : RB β (τ 1)) {r : Nat} (hr : r < 30) (hi : pt (τ 1) r 0 = 1) : ∃ τ', delR τ r = some (Wg cl (τ 1) r, τ') ∧ (∀ z, z < 400 → τ' 1 (363 + z) = clr (τ 1) r (363 + z)) ∧ (∀ y k, y < 30 → k < 12 → pt (τ' 1) y k = if y = r then 0 else pt (τ 1) y k) ∧ τ' 1 0 = τ 1 0 ∧ τ' 1 1 = τ 1 1 ∧ τ' 1 2 = τ 1 2 - 1 := by
  obtain ⟨⟨hS, hR, hP, hF, hL, hZ, hW⟩, hT⟩ := h
  have hl := (hL r hr hi).2.2.2 hi
  obtain ⟨σ4, q1, q2⟩ := x5_cellsOfRow hP.1 hF hr hi hl.1 hl.2
  have e4 : σ4 1 = τ 1 := q2.1 1 (by omega) (by omega)
  obtain ⟨τ1, d1, d2, d3, d4⟩ := x5_dropPieces (σ := σ4) (by rw [e4]; exact hP.1) (by rw [e4]; exact hF) hr hi
  rw [e4] at d3
  have hF1 := hF.drop hr hi
  obtain ⟨⟨l0, o1, o2, o3⟩, o4, o5, o6, -, -⟩ := hF1.own hr hi
  obtain ⟨⟨z0, y1, y2, y3⟩, -, -, y6, y7, y8⟩ := hF.own hr hi
  have hD0 : ∀ j, j < 363 → dropS (τ 1) (PP β r) (β 11 r).toNat j = τ 1 j := fun j hj => dropS_out (fun i _ => by omega)
  have hWD := Wg_drops hF hr hi (β 11 r).toNat (by omega)
  have hDor : ∀ j, dropS (τ 1) (PP β r) (β 11 r).toNat j = 0 ∨ dropS (τ 1) (PP β r) (β 11 r).toNat j = τ 1 j := fun j => dropS_or _
  have hDin : ∀ (i : Nat) (j : Nat), (i : Int) < β 11 r → j = 363 + (PP β r i).toNat → dropS (τ 1) (PP β r) (β 11 r).toNat j = 0 := fun i j hi hj => dropS_in (i := i) (by omega) hj
  have hDout : ∀ j, (∀ i : Nat, (i : Int) < β 11 r → j ≠ 363 + (PP β r i).toNat) → dropS (τ 1) (PP β r) (β 11 r).toNat j = τ 1 j := fun j hj => dropS_out (fun i hi => hj i (by omega))
  generalize hD : dropS (τ 1) (PP β r) (β 11 r).toNat = D at *
  obtain ⟨a, ha⟩ : ∃ a : Nat, β 10 r = a := ⟨(β 10 r).toNat, by omega⟩
  obtain ⟨g, hg⟩ : ∃ g : Nat, β 9 r = g := ⟨(β 9 r).toNat, by omega⟩
  rw [ha, Int.toNat_natCast] at o3 y3
  have hk1 : ∀ l : Int, 0 ≤ l ∧ l ≤ 16 → rwo (mk 1 r 0 l) = r ∧ mk 1 r 0 l ≠ 0 := fun l hl => by
    have := mk_dec (k := 1) (r := (r : Int)) (n := 0) (l := l) (by omega) (by omega) (by omega) hl
    exact ⟨this.2.1, this.2.2.2.2.2⟩
  have hk3 := mk_dec (k := 3) (r := (r : Int)) (n := 0) (l := 0) (by omega) (by omega) (by omega) (by omega)
  have hrwA : rwo (τ 1 (363 + a)) = r := by rw [y3]; exact (hk1 z0 ⟨y1, y2⟩).1
  have hrwG : rwo (τ 1 (363 + g)) = r := by
    by_cases e : g = a
    · rw [e]; exact hrwA
    · have h1 := y6 (by omega)
      rw [hg, Int.toNat_natCast] at h1
      rw [h1]; exact hk3.2.1
  have ht4 : pt (τ1 1) r 4 = a := by
    rw [d3]
    show D _ = _
    rw [hD0 _ (by omega), ← ha]
    exact hl.2
  have ht3 : pt (us D (363 + a) 0) r 3 = g := by
    rw [pt_us2 (by omega) hr (by omega)]
    show D _ = _
    rw [hD0 _ (by omega), ← hg]
    exact hl.1
  -- its cells
  have hDa : D (363 + a) = τ 1 (363 + a) := by
    rcases hDor (363 + a) with z | z
    · rw [z] at o3
      exact absurd o3.symm (hk1 l0 ⟨o1, o2⟩).2
    · exact z
  have hval : cellV (τ 1) (β 10 r) (β 9 r) (PP β r) (β 11 r).toNat = Wg cl (τ 1) r := by
    have hcl0 : Wg cl (us (us D (363 + a) 0) (363 + g) 0) r = 0 := by
      refine Wg_none cl_0 (fun p hp h0 hrw => ?_)
      by_cases eg : p = g
      · rw [eg, us_s] at h0
        exact h0 rfl
      rw [us_n (by omega)] at h0 hrw
      by_cases ea : p = a
      · rw [ea, us_s] at h0
        exact h0 rfl
      rw [us_n (by omega)] at h0 hrw
      have hDp : D (363 + p) = τ 1 (363 + p) := by
        rcases hDor (363 + p) with z | z
        · exact absurd z h0
        · exact z
      rw [hDp] at h0 hrw
      rcases hF.2 p hp h0 with ⟨x, x1, x2, x3⟩ | z
      · have hx := x3.row x1 (hF.own x1 x2).2.2.2.2.1.2
        have e : x = r := by omega
        subst e
        rcases x3 with ⟨l, -, -, -, w⟩ | ⟨-, w, -⟩ | ⟨i, l, i1, -, -, -, w⟩
        · omega
        · omega
        · have := hDin i (363 + p) i1 (by omega)
          rw [hDp] at this
          exact h0 this
      · exact z
    have h400 : g < 400 ∧ a < 400 := by omega
    rw [Wg_us h400.1, wv_0 cl_0, Wg_us h400.2, wv_0 cl_0, hDa] at hcl0
    have hwa : wv cl (τ 1 (363 + a)) r = cl (τ 1 (363 + a)) := if_pos hrwA
    unfold cellV
    rw [ha, hg, Int.toNat_natCast]
    by_cases e : g = a
    · rw [e, us_s, wv_0 cl_0] at hcl0
      rw [if_pos (by omega)]
      omega
    · have h1 := o6 (by omega)
      rw [hg, Int.toNat_natCast] at h1
      have h2 : wv cl (us D (363 + a) 0 (363 + g)) r = 1 := by
        rw [us_n (by omega), h1]
        unfold wv
        rw [if_pos hk3.2.1]
        exact mk_cl3 (by omega) (by omega) (by omega)
      rw [if_neg (by omega)]
      omega
  obtain ⟨u, u1, u2, u3, u4⟩ := del_clear (τ := up2 (up2 τ1 1 (363 + a) 0) 1 (363 + g) 0) hr (j := fun (σ11 : Blk) => Option.bind (ld σ11 1 763 2) fun v12 => Option.bind (ck (v12 - 1)) fun v13 => Option.bind (sw σ11 1 763 2 v13) fun σ14 => some (cellV (τ 1) (β 10 r) (β 9 r) (PP β r) (β 11 r).toNat, σ14))
  have hs2 := hR.s2
  have hu2 : u 1 2 = τ 1 2 := by
    rw [u3 2 (by omega), up2_n (by omega), up2_n (by omega), d3]
    exact hD0 2 (by omega)
  have hmod : delR τ r = some (cellV (τ 1) (β 10 r) (β 9 r) (PP β r) (β 11 r).toNat, up2 u 1 2 (τ 1 2 - 1)) := by
    unfold delR
    have e1 : up2 τ1 1 (363 + a) 0 1 = us D (363 + a) 0 := by rw [up2_row, d3]
    rw [q1, bd2_t, d1, bs, x5_part r 4 rfl (by omega) hr (by omega), bs, ht4, sw_t (363 + a) (by omega) (by omega), bs, x5_part r 3 rfl (by omega) hr (by omega), bs, e1, ht3, sw_t (363 + g) (by omega) (by omega), bs]
    dsimp only [jp]
    rw [u1, ld_t 2 (by omega) (by omega), bs, hu2, ck_t (by omega), bs, sw_t 2 (by omega) (by omega), bs]
  rw [hval] at hmod
  have hSj : ∀ j, j < 363 → j ≠ 2 → j < 3 + 12 * r ∨ 3 + 12 * r + 12 ≤ j → up2 u 1 2 (τ 1 2 - 1) 1 j = τ 1 j := fun j h1 h2 h3 => by
    rw [up2_n (by omega), u3 j h3, up2_n (by omega), up2_n (by omega), d3]
    exact hD0 j h1
  refine ⟨_, hmod, fun z hz => ?_, fun y k hy hk => ?_, hSj 0 (by omega) (by omega) (by omega), hSj 1 (by omega) (by omega) (by omega), up2_s⟩
  · rw [up2_n (by omega), u3 _ (by omega), up2_row, up2_row, d3]
    by_cases eg : z = g
    · rw [eg, us_s, clr_s hrwG]
    rw [us_n (by omega)]
    by_cases ea : z = a
    · rw [ea, us_s, clr_s hrwA]
    rw [us_n (by omega)]
    by_cases e0 : τ 1 (363 + z) = 0
    · rw [clr_0 e0]
      rcases hDor (363 + z) with w | w
      · exact w
      · rw [w, e0]
    by_cases er : rwo (τ 1 (363 + z)) = r
    · rw [clr_s er]
      rcases hF.2 z hz e0 with ⟨x, x1, x2, x3⟩ | w
      · have hx := x3.row x1 (hF.own x1 x2).2.2.2.2.1.2
        have e : x = r := by omega
        subst e
        rcases x3 with ⟨l, -, -, -, w⟩ | ⟨-, w, -⟩ | ⟨i, l, i1, -, -, -, w⟩
        · omega
        · omega
        · exact hDin i (363 + z) i1 (by omega)
      · exact w.elim
    · rw [clr_n er]
      refine hDout _ (fun i i1 w => ?_)
      obtain ⟨h8, l, l1, l2, l3⟩ := y8 i i1
      have e : z = (PP β r i).toNat := by omega
      rw [← e] at l3
      rw [l3] at er
      exact er (mk_dec (k := 2) (r := (r : Int)) (n := (i : Int)) (l := l) (by omega) (by omega) (by omega) (by omega)).2.1
  · by_cases e : y = r
    · rw [if_pos e, e]
      show up2 u 1 2 (τ 1 2 - 1) 1 (3 + (12 * r + k)) = 0
      rw [up2_n (by omega)]
      exact u4 k hk
    · rw [if_neg e]
      exact hSj _ (by omega) (by omega) (by omega)
