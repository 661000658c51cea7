/-! PURE: same: all pages; a row's pieces and letters; the rows by their keys *)  -/
section SAME2
variable {σ : Blk} {B : Nat → Blk} {nb q n : Nat} {T τ : Blk}
theorem same_pages (h : SM σ B nb q n T (τ 1)) (j : Int → Int → Option Int) : g_L_same_L19 σ B nb T j fu 0 0 0 = j (sumN (fun p => if (slT (τ 1) p : Int) ≤ 0 then 0 else 1) 10) (sumN (fun p => fr (τ 1) p) 10) := by
  obtain ⟨⟨hq, hn⟩, hR, hT, hL, -, -⟩ := id h
  obtain ⟨⟨hS, hRW, hP, hF, -⟩, -⟩ := id hR
  let u : Nat → Int := fun p => if (slT (τ 1) p : Int) ≤ 0 then 0 else 1
  have hu : ∀ p, 0 ≤ u p ∧ u p ≤ 1 := fun p => by show 0 ≤ (if (slT (τ 1) p : Int) ≤ 0 then (0 : Int) else 1) ∧ (if (slT (τ 1) p : Int) ≤ 0 then (0 : Int) else 1) ≤ 1; split <;> omega
  have hb : ∀ x, 0 ≤ sumN u x ∧ sumN u x ≤ x * 1 := fun x => ⟨sumN_nonneg (fun i _ => (hu i).1), sumN_le (fun i _ => (hu i).2)⟩
  have hf : ∀ x, x ≤ 10 → 0 ≤ sumN (fun p => fr (τ 1) p) x ∧ sumN (fun p => fr (τ 1) p) x ≤ x * 40 := fun x hx => ⟨sumN_nonneg (fun i hi => (hP.2.2 i (by omega)).2), sumN_le (fun i hi => (fr_rng hP.1 (show i < 10 by omega)).2)⟩
  refine loopUp (F := fun m x => g_L_same_L19 σ B nb T j m (sumN u x) (sumN (fun p => fr (τ 1) p) x) (x : Int)) 10 (fun m x hx => ?_) (fun m => ?_) fu 0 (by omega) (fu_lt (by omega))
  · show g_L_same_L19 σ B nb T j (m + 1) (sumN u x) (sumN (fun p => fr (τ 1) p) x) (x : Int) = g_L_same_L19 σ B nb T j m (sumN u x + u x) (sumN (fun p => fr (τ 1) p) x + fr (τ 1) x) ((x + 1 : Nat) : Int)
    obtain ⟨o0, o1, o2, o3, o4, o5⟩ := o_page (σ := σ) (nb := nb) hq hn hR hx
    have on := o_slot_no (σ := σ) (nb := nb) hq hn hR hx
    have hall := onT_all hP.1 hx
    have r1 := onT_rng (τ 1) x 1
    have r2 := onT_rng (τ 1) x 2
    have r3 := onT_rng (τ 1) x 3
    have hsl := slT_le (τ 1) x
    have b1 := hb x
    have b2 := hu x
    have b3 := hf x (by omega)
    have b4 := fr_rng hP.1 hx
    have hK : ∀ z : Int, z = u x → (Option.bind (ck (sumN u x + z)) fun v118 => Option.bind (ck (sumN (fun p => fr (τ 1) p) x + fr (τ 1) x)) fun v119 => Option.bind (g_X4_page σ B nb x 0) fun r120 => if r120 ≠ fr (τ 1) x then some 0 else Option.bind (g_X4_page σ B nb x 1) fun r121 => if r121 ≠ (slT (τ 1) x : Int) then some 0 else Option.bind (g_X4_page σ B nb x 2) fun r122 => if r122 ≠ onT (τ 1) x 1 then some 0 else Option.bind (g_X4_page σ B nb x 3) fun r123 => if r123 ≠ onT (τ 1) x 2 then some 0 else Option.bind (g_X4_page σ B nb x 4) fun r124 => if r124 ≠ onT (τ 1) x 3 then some 0 else Option.bind (g_X4_page σ B nb x 5) fun r125 => Option.bind (ck ((((slT (τ 1) x : Int) - onT (τ 1) x 1) - onT (τ 1) x 2) - onT (τ 1) x 3)) fun v126 => if r125 ≠ v126 then some 0 else Option.bind (g_X4_slot σ B nb x (slT (τ 1) x : Int) 0) fun r127 => if r127 = (-1) then Option.bind (ck ((x : Int) + 1)) fun v128 => g_L_same_L19 σ B nb T j m v118 v119 v128 else some 0) = g_L_same_L19 σ B nb T j m (sumN u x + u x) (sumN (fun p => fr (τ 1) p) x + fr (τ 1) x) ((x + 1 : Nat) : Int) := fun z hz => by
      rw [hz, ck_t (a := sumN u x + u x) (by omega), bs, ck_t (a := sumN (fun p => fr (τ 1) p) x + fr (τ 1) x) (by omega), bs, o0, bs, if_neg (fun w => w rfl), o1, bs, if_neg (fun w => w rfl), o2, bs, if_neg (fun w => w rfl), o3, bs, if_neg (fun w => w rfl), o4, bs, if_neg (fun w => w rfl), o5, bs, ck_t (a := (((slT (τ 1) x : Int) - onT (τ 1) x 1) - onT (τ 1) x 2) - onT (τ 1) x 3) (by omega), bs, if_neg (show ¬ (slT (τ 1) x : Int) - onT (τ 1) x 0 ≠ (((slT (τ 1) x : Int) - onT (τ 1) x 1) - onT (τ 1) x 2) - onT (τ 1) x 3 by omega), on, bs, if_pos rfl, ck_t (by omega), bs]
      rfl
    rw [g_L_same_L19, if_neg (by omega), jp_t, same_page h hx]
    rw [ld_t 3 (by omega) (by omega), bs, hT.1.1, l_free hT hP.1 hx, bs, jp_t]
    by_cases e : (slT (τ 1) x : Int) ≤ 0
    · rw [if_pos e]
      exact hK 0 (if_pos e).symm
    · rw [if_neg e]
      exact hK 1 (if_neg e).symm
  · show g_L_same_L19 σ B nb T j (m + 1) (sumN u 10) (sumN (fun p => fr (τ 1) p) 10) ((10 : Nat) : Int) = _
    rw [g_L_same_L19, if_pos (by omega)]
theorem same_letters (h : SM σ B nb q n T (τ 1)) {r : Nat} (hr : r < 30) (hi : pt (τ 1) r 0 = 1) {a : Int} (hk : rk (vb B q) a = r) (j : Option Int) : g_L_same_L593 σ B nb T a r (4 * (r : Int)) j fu 0 = j := by
  obtain ⟨⟨hq, hn⟩, hR, hT, hL, -, hE⟩ := id h
  obtain ⟨l6, l0, l1, l2, l3, l4⟩ := hL.live hr hi
  obtain ⟨o1, -⟩ := o_letter (σ := σ) (nb := nb) hq hn hR hr hi hk
  have hle := hE r l6 hi
  refine loopUp (F := fun m x => g_L_same_L593 σ B nb T a r (4 * (r : Int)) j m (x : Int)) (pt (τ 1) r 2).toNat (fun m x hx => ?_) (fun m => ?_) fu 0 (by omega) (fu_lt (by omega))
  · show g_L_same_L593 σ B nb T a r (4 * (r : Int)) j (m + 1) (x : Int) = g_L_same_L593 σ B nb T a r (4 * (r : Int)) j m ((x + 1 : Nat) : Int)
    rw [g_L_same_L593, ld_t (4 * r + 1) (by omega) (by omega), bs, l1, if_neg (by omega), o1 x (by omega), bs, l_letter hle l6 (by omega) hx, bs, if_pos rfl, ck_t (by omega), bs]
    rfl
  · show g_L_same_L593 σ B nb T a r (4 * (r : Int)) j (m + 1) (((pt (τ 1) r 2).toNat : Nat) : Int) = _
    rw [g_L_same_L593, ld_t (4 * r + 1) (by omega) (by omega), bs, l1, if_pos (by omega)]
theorem same_pieces (h : SM σ B nb q n T (τ 1)) {r : Nat} (hr : r < 30) (hi : pt (τ 1) r 0 = 1) {a : Int} (hk : rk (vb B q) a = r) {c0 : Int} (hc : 0 ≤ c0 ∧ c0 ≤ 100) (j : Int → Option Int) : g_L_same_L492 σ B nb T a r (vb B q 11 r) j fu c0 0 = j (c0 + sumN (fun i => cl (τ 1 (363 + (PP (vb B q) r i).toNat))) (vb B q 11 r).toNat) := by
  obtain ⟨⟨hq, hn⟩, hR, hT, hL, -, -⟩ := id h
  obtain ⟨⟨hS, hRW, hP, hF, -⟩, -⟩ := id hR
  obtain ⟨l6, -⟩ := hL.live hr hi
  obtain ⟨-, -, -, -, hnp, hpp⟩ := hF.own hr hi
  obtain ⟨op, -⟩ := o_piece (σ := σ) (nb := nb) hq hn hR hr hi hk
  have hsum := fun x (hx : x ≤ (vb B q 11 r).toNat) => cells_rng hP.1 (p := PP (vb B q) r) (n := x) (fun i hi2 => (hpp i (by omega)).1)
  have key := loopUp (F := fun m x => g_L_same_L492 σ B nb T a r (vb B q 11 r) j m (c0 + sumN (fun i => cl (τ 1 (363 + (PP (vb B q) r i).toNat))) x) (x : Int)) (R := j (c0 + sumN (fun i => cl (τ 1 (363 + (PP (vb B q) r i).toNat))) (vb B q 11 r).toNat)) (vb B q 11 r).toNat (fun m x hx => ?_) (fun m => ?_) fu 0 (by omega) (fu_lt (by omega))
  · have key2 : g_L_same_L492 σ B nb T a r (vb B q 11 r) j fu (c0 + 0) ((0 : Nat) : Int) = j (c0 + sumN (fun i => cl (τ 1 (363 + (PP (vb B q) r i).toNat))) (vb B q 11 r).toNat) := key
    rw [Int.add_zero] at key2
    exact key2
  · show g_L_same_L492 σ B nb T a r (vb B q 11 r) j (m + 1) (c0 + sumN (fun i => cl (τ 1 (363 + (PP (vb B q) r i).toNat))) x) (x : Int) = g_L_same_L492 σ B nb T a r (vb B q 11 r) j m (c0 + (sumN (fun i => cl (τ 1 (363 + (PP (vb B q) r i).toNat))) x + cl (τ 1 (363 + (PP (vb B q) r x).toNat)))) ((x + 1 : Nat) : Int)
    obtain ⟨k, k1, k2, k3, k4, k5⟩ := l_fpiece hT hF (show r < 7 by omega) hi (i := x) (by omega)
    obtain ⟨v1, v2, -⟩ := hT.2.1 k k1
    obtain ⟨-, -, -, m4, -⟩ := mv_dec v1.1
    obtain ⟨p1, p2, p3⟩ := op x (by omega)
    have b1 := hsum x (by omega)
    have b2 := hsum (x + 1) (by omega)
    have b3 : sumN (fun i => cl (τ 1 (363 + (PP (vb B q) r i).toNat))) (x + 1) = sumN (fun i => cl (τ 1 (363 + (PP (vb B q) r i).toNat))) x + cl (τ 1 (363 + (PP (vb B q) r x).toNat)) := rfl
    rw [g_L_same_L492, if_neg (by omega), ld_t 3 (by omega) (by omega), bs, hT.1.1, k2, bs, ld_t k rfl (by have := hT.1.2; omega), bs, l_cells v1 v2, bs, ← k5, ck_t (by omega), bs, p1, bs, ishr16 v1.1 (by omega), k3, dv_t (by omega), bs, if_neg (fun w => w rfl), p2, bs, rm_t (by omega), bs, if_neg (fun w => w rfl), p3, bs, iand31 v1.1 (by omega), k5, m4, if_pos rfl, ck_t (by omega), bs]
    congr 1
    · rw [← k5]; omega
  · show g_L_same_L492 σ B nb T a r (vb B q 11 r) j (m + 1) (c0 + sumN (fun i => cl (τ 1 (363 + (PP (vb B q) r i).toNat))) (vb B q 11 r).toNat) (((vb B q 11 r).toNat : Nat) : Int) = _
    rw [g_L_same_L492, if_pos (by omega)]
end SAME2
