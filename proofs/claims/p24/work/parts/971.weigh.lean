/-! PURE: what a row takes of the places; there is always room *)  -/
def one (v : Int) : Int := if v = 0 then 0 else 1
theorem one_0 : one 0 = 0 := rfl
/-- the weight of row r's things -/
def Wg (g : Int → Int) (s : Nat → Int) (r : Nat) : Int := sumN (fun p => if rwo (s (363 + p)) = r then g (s (363 + p)) else 0) 400
def wv (g : Int → Int) (v : Int) (r : Nat) : Int := if rwo v = r then g v else 0
theorem Wg_us {g : Int → Int} {s : Nat → Int} {p r : Nat} {v : Int} (hp : p < 400) : Wg g (us s (363 + p) v) r = Wg g s r - wv g (s (363 + p)) r + wv g v r := by
  have h := sumN_one (f := fun p => if rwo (s (363 + p)) = r then g (s (363 + p)) else 0) (g := fun z => if rwo (us s (363 + p) v (363 + z)) = r then g (us s (363 + p) v (363 + z)) else 0) hp (fun i hi hne => by
    show (if rwo (us s (363 + p) v (363 + i)) = r then g (us s (363 + p) v (363 + i)) else 0) = _
    rw [us_n (by omega)])
  unfold Wg
  rw [h]
  show _ - (if rwo (s (363 + p)) = r then g (s (363 + p)) else 0) + (if rwo (us s (363 + p) v (363 + p)) = r then g (us s (363 + p) v (363 + p)) else 0) = _
  rw [us_s]
  rfl
theorem Wg_congr {g : Int → Int} {s s' : Nat → Int} {r : Nat} (h : ∀ p, p < 400 → s' (363 + p) = s (363 + p)) : Wg g s' r = Wg g s r := sumN_congr (fun p hp => by
  show (if rwo (s' (363 + p)) = r then g (s' (363 + p)) else 0) = _
  rw [h p hp])
theorem Wg_none {g : Int → Int} (g0 : g 0 = 0) {s : Nat → Int} {r : Nat} (h : ∀ p, p < 400 → s (363 + p) ≠ 0 → rwo (s (363 + p)) ≠ r) : Wg g s r = 0 := by
  unfold Wg
  rw [sumN_congr (g := fun _ => 0) (fun p hp => ?_), sumN_const]
  · simp
  · by_cases e : s (363 + p) = 0
    · rw [e, g0]
      split <;> rfl
    · exact if_neg (h p hp e)
theorem Wg_one {g : Int → Int} (g0 : g 0 = 0) {s : Nat → Int} {r a : Nat} (ha : a < 400) (h : ∀ p, p < 400 → p ≠ a → s (363 + p) ≠ 0 → rwo (s (363 + p)) ≠ r) : Wg g s r = wv g (s (363 + a)) r := by
  unfold Wg
  refine sumN_single ha (fun p hp => ?_)
  by_cases e : p = a
  · rw [if_pos e, e]
    rfl
  · rw [if_neg e]
    by_cases e2 : s (363 + p) = 0
    · rw [e2, g0]
      split <;> rfl
    · exact if_neg (h p hp e e2)
theorem Wg_nn {g : Int → Int} {s : Nat → Int} {r : Nat} (h : ∀ p, p < 400 → 0 ≤ g (s (363 + p))) : 0 ≤ Wg g s r := sumN_nonneg (fun p hp => by
  show 0 ≤ (if rwo (s (363 + p)) = r then g (s (363 + p)) else 0)
  split
  · exact h p hp
  · exact Int.le_refl _)
theorem Wg_tot {g : Int → Int} {s : Nat → Int} : sumN (fun p => g (s (363 + p))) 400 = sumN (fun r => Wg g s r) 32 := by
  unfold Wg
  rw [sumN_swap]
  refine sumN_congr (fun p hp => ?_)
  have hb : 0 ≤ rwo (s (363 + p)) ∧ rwo (s (363 + p)) < 32 := by
    unfold rwo
    omega
  refine (sumN_single (k := (rwo (s (363 + p))).toNat) (by omega) (fun r hr => ?_)).symm
  by_cases e : r = (rwo (s (363 + p))).toNat
  · rw [if_pos e, if_pos (by omega)]
  · rw [if_neg e, if_neg (by omega)]
theorem sumN_blocks {f : Nat → Int} {m : Nat} : ∀ n, sumN f (m * n) = sumN (fun p => sumN (fun j => f (m * p + j)) m) n
  | 0 => rfl
  | n + 1 => by
    rw [Nat.mul_succ, sumN_split m, sumN_blocks n]
    rfl
/-- cells that are taken in all -/
def Us (s : Nat → Int) : Int := sumN (fun p => cl (s (363 + p))) 400
theorem room_ok {s : Nat → Int} {c : Int} (h : Us s < 10 * (41 - c)) : pgT s c < 10 := by
  rcases Nat.lt_or_ge (pgT s c) 10 with h1 | h1
  · exact h1
  · exfalso
    have h2 : ∀ p, p < 10 → 41 - c ≤ sumN (fun j => cl (s (363 + (40 * p + j)))) 40 := fun p hp => by
      have h3 := firstZ_nz (f := fun p => if c ≤ fr s p then 0 else 1) 10 0 p (by omega) (by unfold pgT at h1; omega)
      have h4 : ¬ c ≤ fr s p := fun z => h3 (if_pos z)
      unfold fr at h4
      omega
    have h5 : ∀ n : Nat, n ≤ 10 → (n : Int) * (41 - c) ≤ sumN (fun p => sumN (fun j => cl (s (363 + (40 * p + j)))) 40) n := by
      intro n
      induction n with
      | zero =>
        intro _
        simp [sumN]
      | succ n ih =>
        intro hn
        have h6 := ih (by omega)
        have h7 := h2 n (by omega)
        show ((n + 1 : Nat) : Int) * (41 - c) ≤ sumN _ n + sumN (fun j => cl (s (363 + (40 * n + j)))) 40
        rw [Int.natCast_add, Int.add_mul]
        simp only [Int.natCast_one, Int.one_mul]
        omega
    have h8 := h5 10 (Nat.le_refl _)
    have h9 : Us s = sumN (fun p => sumN (fun j => cl (s (363 + (40 * p + j)))) 40) 10 := sumN_blocks (f := fun p => cl (s (363 + p))) (m := 40) 10
    omega
theorem Us_us {s : Nat → Int} {p : Nat} {v : Int} (hp : p < 400) : Us (us s (363 + p) v) = Us s - cl (s (363 + p)) + cl v := by
  have h := sumN_one (f := fun p => cl (s (363 + p))) (g := fun z => cl (us s (363 + p) v (363 + z))) hp (fun i hi hne => by
    show cl (us s (363 + p) v (363 + i)) = _
    rw [us_n (by omega)])
  unfold Us
  rw [h]
  show _ - cl (s (363 + p)) + cl (us s (363 + p) v (363 + p)) = _
  rw [us_s]
theorem Us_tot {s : Nat → Int} : Us s = sumN (fun r => Wg cl s r) 32 := Wg_tot (g := cl)
theorem TT.cnt {T : Blk} {q t : Nat} {s : Nat → Int} {n : Nat} (h : TT T q t s n) : (n : Int) = sumN (fun r => Wg one s r) 32 := by
  rw [← Wg_tot, ← h.all one_0, sumN_congr (g := fun _ => 1) (fun k hk => ?_), sumN_const]
  · simp
  · have h1 := h.nz hk
    rw [(h.2.1 k hk).2.2] at h1
    exact if_neg h1
theorem TK.us {s : Nat → Int} (h : TK s) {p : Nat} {v : Int} (hv : tok v) : TK (us s (363 + p) v) := fun q hq => by
  by_cases e : q = p
  · rw [e, us_s]
    exact hv
  · rw [us_n (by omega)]
    exact h q hq
theorem wv_0 {g : Int → Int} (g0 : g 0 = 0) {r : Nat} : wv g 0 r = 0 := by
  unfold wv
  rw [g0]
  split <;> rfl
theorem wv_mk {g : Int → Int} {k n l : Int} {r x : Nat} (hk : 1 ≤ k ∧ k ≤ 3) (hr : r < 30) (hn : 0 ≤ n ∧ n < 64) (hl : 0 ≤ l ∧ l ≤ 16) : wv g (mk k r n l) x = if r = x then g (mk k r n l) else 0 := by
  unfold wv
  rw [(mk_dec (r := (r : Int)) hk ⟨by omega, by omega⟩ hn hl).2.1]
  by_cases e : r = x
  · rw [if_pos e, if_pos (by omega)]
  · rw [if_neg e, if_neg (by omega)]
theorem one_mk {k r n l : Int} (hk : 1 ≤ k ∧ k ≤ 3) (hr : 0 ≤ r ∧ r < 30) (hn : 0 ≤ n ∧ n < 64) (hl : 0 ≤ l ∧ l ≤ 16) : one (mk k r n l) = 1 := if_neg (mk_dec hk hr hn hl).2.2.2.2.2
