/-! PURE: same: the rows by their keys; all of it *)  -/
theorem jp_sel {α : Type} {C : Prop} [Decidable C] {K : Int → Option α} {a b : Int} : jp K (fun j => if C then j a else j b) = K (if C then a else b) := by
  show (if C then K a else K b) = _
  by_cases e : C
  · rw [if_pos e, if_pos e]
  · rw [if_neg e, if_neg e]
section SAME3
variable {σ : Blk} {B : Nat → Blk} {nb q n : Nat} {T τ : Blk}
/-- letters of the rows below a key; the dearest of them -/
def kl (β : Blk) (s : Nat → Int) : Nat → Int := ks β (fun r => pt s r 2)
def kg (β : Blk) (k : Nat) : Int := gm (fun k => cst β (β 6 k).toNat) (fun k => β 6 k ≠ -1) (-6) k
theorem kg_s {β : Blk} {k : Nat} : kg β (k + 1) = if β 6 k ≠ -1 then (if kg β k < cst β (β 6 k).toNat then cst β (β 6 k).toNat else kg β k) else kg β k := rfl
theorem same_row (h : SM σ B nb q n T (τ 1)) {k r : Nat} (hk : k < 100) (hr : r < 30) (hi : pt (τ 1) r 0 = 1) (h6 : vb B q 6 k = r) {x28 x29 : Int} (h28 : 0 ≤ x28 ∧ x28 ≤ 100000) (h29 : -6 ≤ x29 ∧ x29 ≤ 42) (j : Int → Int → Int → Option Int) (m : Nat) : g_L_same_L368 σ B nb T j (m + 1) x28 x29 (kc (vb B q) k) (k : Int) = g_L_same_L368 σ B nb T j m (x28 + pt (τ 1) r 2) (if x29 < cst (vb B q) r then cst (vb B q) r else x29) (kc (vb B q) k + 1) ((k + 1 : Nat) : Int) := by
  obtain ⟨⟨hq, hn⟩, hR, hT, hL, -, hE⟩ := id h
  obtain ⟨⟨hS, hRW, hP, hF, hLI, -⟩, -⟩ := id hR
  obtain ⟨l6, l0, l1, l2, l3, l4⟩ := hL.live hr hi
  have h34 := (hLI r hr hi).2.2.2 hi
  obtain ⟨⟨hl0, w1, w2, w3⟩, oa, oh, -, hnp, hpp⟩ := hF.own hr hi
  have hrk : rk (vb B q) (k : Int) = r := by rw [rk_nat hk]; exact h6
  obtain ⟨a0, a1, a2, a3, a4, a5, a6, a7, a8, a9⟩ := o_row (σ := σ) (nb := nb) hq hn hR hr hi hrk
  obtain ⟨-, e1⟩ := o_letter (σ := σ) (nb := nb) hq hn hR hr hi hrk
  obtain ⟨-, e2⟩ := o_piece (σ := σ) (nb := nb) hq hn hR hr hi hrk
  have e3 := (o_key (σ := σ) (nb := nb) hq hn hR).1 k hk (by omega)
  have hpc := l_pieces hT hF (show r < 7 by omega) hi
  obtain ⟨kh, k1, k2, k3⟩ := l_fhead hT hF (show r < 7 by omega) hi
  obtain ⟨v1, v2, -⟩ := hT.2.1 kh k1
  obtain ⟨-, -, -, m4, -⟩ := mv_dec v1.1
  have hco : g_L_cost T r 1 28 2 64 n = some (cst (vb B q) r) := l_cost (ir := 1) hT hF (show r < 7 by omega) hi (by rw [l3]; exact h34.1) (by rw [l4]; exact h34.2)
  have hcr := cst_rng hF hr hi
  have hcl : 0 ≤ cl (mv (T 2 kh)) ∧ cl (mv (T 2 kh)) ≤ 18 := by
    have := cl_rng (hP.1 (vb B q 10 r).toNat (by omega))
    rw [k3] at this
    exact ⟨this.1, this.2.1⟩
  have hkc := kc_rng (vb B q) k
  have hx48 : 0 ≤ (if T 1 (4 * r + 2) = T 1 (4 * r + 3) then (0 : Int) else 1) ∧ (if T 1 (4 * r + 2) = T 1 (4 * r + 3) then (0 : Int) else 1) ≤ 1 := by split <;> omega
  rw [g_L_same_L368, if_neg (by omega), l_rowOf hL hRW, bs, jp_t, hrk, if_pos (by omega), ck_t (a := 4 * (r : Int)) (by omega), bs, ld_t 3 (by omega) (by omega), bs, hT.1.1, hpc, bs, bs, k2, bs, ld_t kh rfl (by have := hT.1.2; omega), bs, l_cells v1 v2, bs, ld_t (4 * r + 2) (by omega) (by omega), bs, ld_t (4 * r + 3) (by omega) (by omega), bs, jp_sel, ck_t (by omega), bs, bs, hco, bs, ck_t (a := kc (vb B q) k + 1) (by omega), bs, e3, bs, if_pos rfl, jp_t, same_pieces h hr hi hrk (by omega), jp_t, same_letters h hr hi hrk]
  have htk : cellV (τ 1) (pt (τ 1) r 4) (pt (τ 1) r 3) (PP (vb B q) r) (vb B q 11 r).toNat = cl (mv (T 2 kh)) + (if pt (τ 1) r 3 = pt (τ 1) r 4 then (0 : Int) else 1) + sumN (fun i => cl (τ 1 (363 + (PP (vb B q) r i).toNat))) (vb B q 11 r).toNat := by
    unfold cellV
    rw [h34.2, k3]
    by_cases e : pt (τ 1) r 3 = vb B q 10 r
    · rw [if_pos e, if_pos e.symm]
    · rw [if_neg e, if_neg (fun z => e z.symm)]
  have h3r : 0 ≤ pt (τ 1) r 3 := by rw [h34.1]; exact oh.1
  have h4r : 0 ≤ pt (τ 1) r 4 := by rw [h34.2]; exact oa.1
  have hmv : (if pt (τ 1) r 3 ≠ pt (τ 1) r 4 then (1 : Int) else 0) = if pt (τ 1) r 3 = pt (τ 1) r 4 then 0 else 1 := by
    by_cases e : pt (τ 1) r 3 = pt (τ 1) r 4
    · rw [if_neg (fun z => z e), if_pos e]
    · rw [if_pos e, if_neg e]
  rw [ld_t (4 * r + 1) (by omega) (by omega), bs, l1, l3, l4, ck_t (a := x28 + pt (τ 1) r 2) (by omega), bs, jp_sel, a0, bs, bs, if_neg (fun w => w rfl), a1, bs, bs, dv_t h3r, bs, if_neg (fun w => w rfl), a2, bs, bs, rm_t h3r, bs, if_neg (fun w => w rfl), a3, bs, bs, dv_t h4r, bs, if_neg (fun w => w rfl), a4, bs, bs, rm_t h4r, bs, if_neg (fun w => w rfl), a5, bs, bs, bs, jp_sel, hmv, if_neg (fun w => w rfl), a6, bs, iand31 v1.1 (by omega), h34.2, k3, m4, if_neg (fun w => w rfl), a7, bs, if_neg (fun w => w rfl), a8, bs, if_neg (fun w => w rfl), a9, bs, htk, h34.2, if_neg (fun w => w rfl), bs, e1, bs, if_neg (fun w => w rfl), e2, bs, if_pos rfl, ck_t (by omega)]
  have e9 : (if cst (vb B q) r ≤ x29 then x29 else cst (vb B q) r) = if x29 < cst (vb B q) r then cst (vb B q) r else x29 := by
    split <;> split <;> omega
  rw [e9]
  rfl
theorem same_none (h : SM σ B nb q n T (τ 1)) {k : Nat} (hk : k < 100) (h6 : vb B q 6 k = -1) {x28 x29 x30 : Int} (j : Int → Int → Int → Option Int) (m : Nat) : g_L_same_L368 σ B nb T j (m + 1) x28 x29 x30 (k : Int) = g_L_same_L368 σ B nb T j m x28 x29 x30 ((k + 1 : Nat) : Int) := by
  obtain ⟨⟨hq, hn⟩, hR, hT, hL, -, hE⟩ := id h
  have hrk : rk (vb B q) (k : Int) = -1 := by rw [rk_nat hk]; exact h6
  have on := o_row_no (σ := σ) (nb := nb) hq hn hR hrk 0
  rw [g_L_same_L368, if_neg (by omega), l_rowOf hL hR.1.2.1, bs, jp_t, hrk, if_neg (by decide), on, bs, if_pos rfl, ck_t (by omega)]
  rfl
theorem same_keys (h : SM σ B nb q n T (τ 1)) (j : Int → Int → Int → Option Int) : g_L_same_L368 σ B nb T j fu 0 (-6) 0 0 = j (sumN (kl (vb B q) (τ 1)) 100) (kg (vb B q) 100) (kc (vb B q) 100) := by
  obtain ⟨⟨hq, hn⟩, hR, hT, hL, -, hE⟩ := id h
  obtain ⟨⟨hS, hRW, hP, hF, hLI, -⟩, -⟩ := id hR
  have hb : ∀ x, x ≤ 100 → 0 ≤ sumN (kl (vb B q) (τ 1)) x ∧ sumN (kl (vb B q) (τ 1)) x ≤ x * 40 := fun x hx => by
    have hk : ∀ i, i < x → 0 ≤ kl (vb B q) (τ 1) i ∧ kl (vb B q) (τ 1) i ≤ 40 := fun i hi => ks_rng hRW (by decide) (fun r hr hi => ln_rng hR.1 hr) (by omega)
    exact ⟨sumN_nonneg (fun i hi => (hk i hi).1), sumN_le (fun i hi => (hk i hi).2)⟩
  have hg : ∀ x, x ≤ 100 → -6 ≤ kg (vb B q) x ∧ kg (vb B q) x ≤ 42 := fun x hx => by
    rcases gm_two (f := fun k => cst (vb B q) (vb B q 6 k).toNat) (P := fun k => vb B q 6 k ≠ -1) x (fun i hi hp => by
      rcases hRW.2.1 i (by omega) with z | ⟨r, r1, r2, r3, -⟩
      · exact absurd z hp
      · show 1 ≤ cst (vb B q) (vb B q 6 i).toNat ∧ cst (vb B q) (vb B q 6 i).toNat ≤ 42
        rw [r2, Int.toNat_natCast]
        exact cst_rng hF r1 r3) with ⟨-, -, z⟩ | ⟨-, z1, z2, z3⟩
    · unfold kg
      rw [z]
      omega
    · unfold kg
      rw [← z1]
      omega
  refine loopUp (F := fun m x => g_L_same_L368 σ B nb T j m (sumN (kl (vb B q) (τ 1)) x) (kg (vb B q) x) (kc (vb B q) x) (x : Int)) 100 (fun m x hx => ?_) (fun m => ?_) fu 0 (by omega) (fu_lt (by omega))
  · show g_L_same_L368 σ B nb T j (m + 1) (sumN (kl (vb B q) (τ 1)) x) (kg (vb B q) x) (kc (vb B q) x) (x : Int) = g_L_same_L368 σ B nb T j m (sumN (kl (vb B q) (τ 1)) x + kl (vb B q) (τ 1) x) (kg (vb B q) (x + 1)) (kc (vb B q) (x + 1)) ((x + 1 : Nat) : Int)
    rcases hRW.2.1 x hx with z | ⟨r, r1, r2, r3, -⟩
    · have e1 : kl (vb B q) (τ 1) x = 0 := if_pos z
      rw [same_none h hx z, e1, kg_s, if_neg (fun w => w z), kc_s, if_pos z, Int.add_zero, Int.add_zero]
    · have e1 : kl (vb B q) (τ 1) x = pt (τ 1) r 2 := by
        show (if vb B q 6 x = -1 then 0 else pt (τ 1) (vb B q 6 x).toNat 2) = _
        rw [if_neg (by omega), r2, Int.toNat_natCast]
      have b1 := hb x (by omega)
      rw [same_row h hx r1 r3 r2 (by omega) (hg x (by omega)), e1, kg_s, if_pos (show vb B q 6 x ≠ -1 by omega), kc_s, if_neg (show ¬ vb B q 6 x = -1 by omega), r2, Int.toNat_natCast]
  · show g_L_same_L368 σ B nb T j (m + 1) (sumN (kl (vb B q) (τ 1)) 100) (kg (vb B q) 100) (kc (vb B q) 100) ((100 : Nat) : Int) = _
    rw [g_L_same_L368, if_pos (by omega)]
theorem kinds_onT {s : Nat → Int} (hT : TK s) {k : Int} (hk : 1 ≤ k) : sumN (fun p => if kd (s (363 + p)) = k then (1 : Int) else 0) 400 = sumN (fun p => onT s p k) 10 := by
  have e := sumN_blocks (f := fun p => if kd (s (363 + p)) = k then (1 : Int) else 0) (m := 40) 10
  rw [show (400 : Nat) = 40 * 10 from rfl, e]
  refine sumN_congr (fun p hp => ?_)
  unfold onT
  refine sumN_congr (fun j hj => ?_)
  show (if kd (s (363 + (40 * p + j))) = k then (1 : Int) else 0) = _
  by_cases e0 : s (363 + (40 * p + j)) = 0
  · rw [if_pos e0, e0, if_neg (by rw [show kd 0 = 0 from rfl]; omega)]
  · rw [if_neg e0, if_neg (show ¬ k = 0 by omega)]
    by_cases e1 : kd (s (363 + (40 * p + j))) = k
    · rw [if_pos e1, if_neg (fun z => z e1)]
    · rw [if_neg e1, if_pos e1]
theorem same_ok (h : SM σ B nb q n T (τ 1)) : g_L_same σ B nb T = some 1 := by
  obtain ⟨⟨hq, hn⟩, hR, hT, hL, ⟨t0, t1, t2⟩, hE⟩ := id h
  obtain ⟨⟨hS, hRW, hP, hF, hLI, hZ, hW⟩, -⟩ := id hR
  obtain ⟨c0, c1, c2, c3, c4, c5, c6, c7, c8, c9⟩ := o_count (σ := σ) (nb := nb) hq hn hR
  have hke := (o_key (σ := σ) (nb := nb) hq hn hR).2
  have e6 : sumN (kl (vb B q) (τ 1)) 100 = sumN (fun r => pt (τ 1) r 2) 30 := by
    unfold kl
    rw [hRW.ksum]
    refine sumN_congr (fun r hr => ?_)
    by_cases e : pt (τ 1) r 0 = 1
    · rw [if_pos e]
    · rw [if_neg e, hZ r hr e]
  have e7 : kg (vb B q) 100 = if τ 1 2 ≠ 0 then gm (cst (vb B q)) (fun r => pt (τ 1) r 0 = 1) 0 30 else -6 := by
    have htot := hRW.total
    have hgk := hRW.gmk (f := cst (vb B q))
    rcases gm_two (f := fun k => cst (vb B q) (vb B q 6 k).toNat) (P := fun k => vb B q 6 k ≠ -1) 100 (fun i hi hp => by
      rcases hRW.2.1 i (by omega) with z | ⟨r, r1, r2, r3, -⟩
      · exact absurd z hp
      · show 1 ≤ cst (vb B q) (vb B q 6 i).toNat ∧ cst (vb B q) (vb B q 6 i).toNat ≤ 42
        rw [r2, Int.toNat_natCast]
        exact cst_rng hF r1 r3) with ⟨z0, -, z⟩ | ⟨⟨i, i1, i2⟩, z1, z2, z3⟩
    · have e0 : kc (vb B q) 100 = 0 := by
        unfold kc
        rw [sumN_congr (g := fun _ => 0) (fun i hi => if_pos (Classical.not_not.mp (z0 i hi))), sumN_const]
        simp
      rw [if_neg (show ¬ τ 1 2 ≠ 0 from fun w => w (by omega))]
      exact z
    · have e0 : 1 ≤ kc (vb B q) 100 := by
        have h1 := kc_mono (vb B q) (show i + 1 ≤ 100 by omega)
        have h2 := kc_rng (vb B q) i
        rw [kc_s, if_neg i2] at h1
        omega
      rw [if_pos (by omega), ← hgk]
      exact z1.symm
  unfold g_L_same
  rw [jp_t, same_pages h, jp_t, same_keys h, hke, bs, if_neg (fun w => w rfl), c0, bs, ld_t 2 (by omega) (by omega), bs, t2, if_neg (fun w => w rfl), c1, bs, if_neg (fun w => w rfl), c2, bs, ld_t 3 (by omega) (by omega), bs, hT.1.1, l_kinds hT (by decide), bs, kinds_onT hP.1 (by decide), if_neg (fun w => w rfl), c3, bs, bs, l_kinds hT (by decide), bs, kinds_onT hP.1 (by decide), if_neg (fun w => w rfl), c4, bs, if_neg (fun w => w rfl), c5, bs, bs, l_costs hT hR.1 hL, bs, if_neg (fun w => w rfl), c6, bs, e6, if_neg (fun w => w rfl), c7, bs, e7, if_neg (fun w => w rfl), c8, bs, ld_t 0 (by omega) (by omega), bs, t0, if_neg (fun w => w rfl), c9, bs, ld_t 1 (by omega) (by omega), bs, t1, if_neg (fun w => w rfl)]
end SAME3
