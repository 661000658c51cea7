/-! PURE: what the law reads off its tables *)  -/
def LRow (T : Blk) (ir : Nat) (s : Nat → Int) : Prop := (∀ x, x < 6 → (pt s x 0 = 1 ∧ T ir (4 * x) = pt s x 1 ∧ T ir (4 * x + 1) = pt s x 2 ∧ (0 ≤ pt s x 2 ∧ pt s x 2 ≤ 24) ∧ T ir (4 * x + 2) = pt s x 3 ∧ T ir (4 * x + 3) = pt s x 4) ∨ (pt s x 0 = 0 ∧ T ir (4 * x + 1) = -1)) ∧ ∀ x, 6 ≤ x → x < 30 → pt s x 0 = 0
theorem LRow.live {T : Blk} {ir : Nat} {s : Nat → Int} (h : LRow T ir s) {x : Nat} (hx : x < 30) (hi : pt s x 0 = 1) : x < 6 ∧ T ir (4 * x) = pt s x 1 ∧ T ir (4 * x + 1) = pt s x 2 ∧ (0 ≤ pt s x 2 ∧ pt s x 2 ≤ 24) ∧ T ir (4 * x + 2) = pt s x 3 ∧ T ir (4 * x + 3) = pt s x 4 := by
  have h6 : x < 6 := by
    rcases Nat.lt_or_ge x 6 with h1 | h1
    · exact h1
    · have := h.2 x h1 hx
      omega
  rcases h.1 x h6 with h1 | h1
  · exact ⟨h6, h1.2⟩
  · omega
theorem l_rowOf {T β : Blk} {ir : Nat} {s : Nat → Int} (h : LRow T ir s) (hR : RW β s) (a : Int) : g_L_rowOf T a ir 28 = some (rk β a) := by
  obtain ⟨b, b1, b2, b3⟩ := first_z (fun x => pt s x 0 = 1 ∧ pt s x 1 = a) 6
  have key := loopUp (F := fun m x => g_L_rowOf_L2 T a ir 28 m (x : Int)) (R := some (if b = 6 then -1 else (b : Int))) b (fun m x hx => ?_) (fun m => ?_) fu 0 (by omega) (fu_lt (by omega))
  · have e : rk β a = if b = 6 then -1 else (b : Int) := by
      rcases hR.key a with hk | ⟨r, hr, hk, hi, hka, -⟩
      · by_cases e6 : b = 6
        · rw [if_pos e6, hk]
        · obtain ⟨c1, c2⟩ := b3.resolve_left e6
          have := (hR.of (show b < 30 by omega) c1).1
          rw [c2] at this
          rw [if_neg e6, this]
      · have h6 := (h.live hr hi).1
        have hb : b ≤ r := by
          rcases Nat.lt_or_ge r b with z | z
          · exact absurd ⟨hi, hka⟩ (b2 r z)
          · exact z
        have e6 : b ≠ 6 := by omega
        obtain ⟨c1, c2⟩ := b3.resolve_left e6
        have := (hR.of (show b < 30 by omega) c1).1
        rw [c2] at this
        rw [if_neg e6, this]
    rw [e]
    exact key
  · show g_L_rowOf_L2 T a ir 28 (m + 1) (x : Int) = g_L_rowOf_L2 T a ir 28 m ((x + 1 : Nat) : Int)
    have hgo : Option.bind (ck ((x : Int) + 1)) (fun v4 => g_L_rowOf_L2 T a ir 28 m v4) = g_L_rowOf_L2 T a ir 28 m ((x + 1 : Nat) : Int) := by
      rw [ck_t (by omega), bs]
      rfl
    rw [g_L_rowOf_L2, if_neg (by omega), ld_t (4 * x + 1) (by omega) (by omega), bs, jp_t]
    rcases h.1 x (by omega) with z | z
    · rw [if_neg (by omega), ld_t (4 * x) (by omega) (by omega), bs, if_pos (show T ir (4 * x) ≠ a from fun w => b2 x hx ⟨z.1, by omega⟩)]
      exact hgo
    · rw [if_pos (by omega)]
      exact hgo
  · show g_L_rowOf_L2 T a ir 28 (m + 1) (b : Int) = _
    rw [g_L_rowOf_L2]
    by_cases e : b = 6
    · rw [if_pos (by omega), if_pos e]
    · obtain ⟨c1, c2⟩ := b3.resolve_left e
      rcases h.1 b (by omega) with z | z
      · rw [if_neg (by omega), ld_t (4 * b + 1) (by omega) (by omega), bs, jp_t, if_neg (by omega), ld_t (4 * b) (by omega) (by omega), bs, if_neg (by omega), if_neg e]
      · omega
section READ
variable {T : Blk} {q t n r : Nat} {s at_ ho np : Nat → Int} {w : Nat → Prop} {pp : Nat → Nat → Int}
theorem l_fpiece (h : TT T q t s n) (hF : FI s w at_ ho np pp (fun _ => False)) (hr : r < 7) (hw : w r) {i : Nat} (hi : (i : Int) < np r) : ∃ k : Nat, k < n ∧ g_L_find T 2 r i t 64 n = some (k : Int) ∧ T t k / 65536 = pp r i ∧ (0 ≤ pp r i ∧ pp r i < 400) ∧ s (363 + (pp r i).toNat) = mv (T t k) := by
  obtain ⟨-, -, -, -, hnp, hpp⟩ := hF.own (show r < 30 by omega) hw
  obtain ⟨h1, l, l1, l2, l3⟩ := hpp i hi
  obtain ⟨k, k1, k2, k3⟩ := find_at h (a := (pp r i).toNat) (by omega) l3 (by omega) (by omega) (by omega) (by omega) (fun b b1 b2 b3 b4 b5 => by
    obtain ⟨j, j1, j2, j3, -⟩ := hF.find b1 (show r < 30 by omega) b3 b4
    have e : j = i := by omega
    subst e
    omega)
  have h3 := (h.2.1 k k1).2.2
  rw [k3, Int.toNat_natCast] at h3
  exact ⟨k, k1, k2, by omega, h1, h3⟩
theorem l_fpiece_no (h : TT T q t s n) (hF : FI s w at_ ho np pp (fun _ => False)) (hr : r < 7) {i : Nat} (hi : np r ≤ (i : Int)) : g_L_find T 2 r i t 64 n = some (-1) := find_no h (fun b b1 b2 b3 b4 b5 => by
  obtain ⟨j, j1, j2, -⟩ := hF.find b1 (show r < 30 by omega) b3 b4
  omega)
theorem l_fhead (h : TT T q t s n) (hF : FI s w at_ ho np pp (fun _ => False)) (hr : r < 7) (hw : w r) : ∃ k : Nat, k < n ∧ g_L_find T 1 r 0 t 64 n = some (k : Int) ∧ s (363 + (at_ r).toNat) = mv (T t k) := by
  obtain ⟨⟨l, l1, l2, l3⟩, ha, -⟩ := hF.own (show r < 30 by omega) hw
  obtain ⟨k, k1, k2, k3⟩ := find_at h (a := (at_ r).toNat) (by omega) l3 (by omega) (by omega) (by omega) (by omega) (fun b b1 b2 b3 b4 b5 => by
    rcases hF.kindrow b1 (show r < 30 by omega) b2 b4 with ⟨-, hi⟩ | hE
    · rcases hi with ⟨x, -, -, -, x4⟩ | ⟨x3, -⟩ | ⟨x, y, x0, x1, x2, x3, -⟩
      · omega
      · rw [x3, (mk_dec (k := 3) (r := (r : Int)) (n := 0) (l := 0) (by omega) (by omega) (by omega) (by omega)).1] at b3
        omega
      · have := (hF.own (show r < 30 by omega) hw).2.2.2.2.1
        rw [x3, (mk_dec (k := 2) (r := (r : Int)) (n := (x : Int)) (l := y) (by omega) (by omega) (by omega) (by omega)).1] at b3
        omega
    · exact hE.elim)
  have h3 := (h.2.1 k k1).2.2
  rw [k3, Int.toNat_natCast] at h3
  exact ⟨k, k1, k2, h3⟩
theorem l_pieces (h : TT T q t s n) (hF : FI s w at_ ho np pp (fun _ => False)) (hr : r < 7) (hw : w r) : g_L_pieces T r t 64 n = some (np r) := by
  obtain ⟨-, -, -, -, hnp, -⟩ := hF.own (show r < 30 by omega) hw
  refine loopUp (F := fun m x => g_L_pieces_L2 T r t 64 n m (x : Int)) (np r).toNat (fun m x hx => ?_) (fun m => ?_) fu 0 (by omega) (fu_lt (by omega))
  · show g_L_pieces_L2 T r t 64 n (m + 1) (x : Int) = g_L_pieces_L2 T r t 64 n m ((x + 1 : Nat) : Int)
    obtain ⟨k, -, k2, -⟩ := l_fpiece h hF hr hw (i := x) (by omega)
    rw [g_L_pieces_L2, k2, bs, if_neg (by omega), ck_t (by omega), bs]
    rfl
  · show g_L_pieces_L2 T r t 64 n (m + 1) (((np r).toNat : Nat) : Int) = _
    rw [g_L_pieces_L2, l_fpiece_no h hF hr (by omega), bs, if_pos (by decide)]
    congr 1
    omega
theorem l_cost {ir : Nat} (h : TT T q t s n) (hF : FI s w at_ ho np pp (fun _ => False)) (hr : r < 7) (hw : w r) (h2 : T ir (4 * r + 2) = ho r) (h3 : T ir (4 * r + 3) = at_ r) : g_L_cost T r ir 28 t 64 n = some (costV (at_ r) (ho r) (pp r) (np r).toNat) := by
  obtain ⟨-, ha, hh, -, hnp, hpp⟩ := hF.own (show r < 30 by omega) hw
  let c : Int := if at_ r / 40 ≠ ho r / 40 then 2 else 1
  let f : Nat → Int := fun i => if pp r i / 40 = gpg (at_ r) (pp r) i then 0 else 1
  have hc : 1 ≤ c ∧ c ≤ 2 := by
    show 1 ≤ (if at_ r / 40 ≠ ho r / 40 then (2 : Int) else 1) ∧ (if at_ r / 40 ≠ ho r / 40 then (2 : Int) else 1) ≤ 2
    split <;> omega
  have hf : ∀ x, 0 ≤ sumN f x ∧ sumN f x ≤ x * 1 := fun x => ⟨sumN_nonneg (fun i _ => by show 0 ≤ (if pp r i / 40 = gpg (at_ r) (pp r) i then (0 : Int) else 1); split <;> omega), sumN_le (fun i _ => by show (if pp r i / 40 = gpg (at_ r) (pp r) i then (0 : Int) else 1) ≤ 1; split <;> omega)⟩
  have hp := l_pieces h hF hr hw
  have key := loopUp (F := fun m x => g_L_cost_L18 T r ir 28 t 64 n m (gpg (at_ r) (pp r) x) (c + sumN f x) (x : Int)) (R := some (c + sumN f (np r).toNat)) (np r).toNat (fun m x hx => ?_) (fun m => ?_) 9999 0 (by omega) (by omega)
  · unfold g_L_cost
    rw [ld_t (4 * r + 2) (by omega) (by omega), bs, h2, dv_t (by omega), bs, show fu = 9999 + 1 from rfl, g_L_cost_L18, hp, bs, if_neg (by omega), jp_t, if_neg (by decide), ld_t (4 * r + 3) (by omega) (by omega), bs, h3, dv_t (by omega), bs]
    dsimp only
    rw [jp_t]
    by_cases e : at_ r / 40 = ho r / 40
    · have ec : c = 1 := if_neg (fun z => z e)
      rw [if_pos e]
      dsimp only
      rw [ck_t (by omega), bs, ck_t (by omega), bs]
      have key2 := key
      rw [ec] at key2
      unfold costV
      rw [if_neg (fun z => z e)]
      exact key2
    · have ec : c = 2 := if_pos e
      rw [if_neg e]
      dsimp only
      rw [ck_t (by omega), bs, ck_t (by omega), bs]
      have key2 := key
      rw [ec] at key2
      unfold costV
      rw [if_pos e]
      exact key2
  · show g_L_cost_L18 T r ir 28 t 64 n (m + 1) (gpg (at_ r) (pp r) x) (c + sumN f x) (x : Int) = g_L_cost_L18 T r ir 28 t 64 n m (pp r x / 40) (c + (sumN f x + f x)) ((x + 1 : Nat) : Int)
    obtain ⟨k, k1, k2, k3, k4, k5⟩ := l_fpiece h hF hr hw (i := x) (by omega)
    obtain ⟨v1, v2, -⟩ := h.2.1 k k1
    have h9 := hf x
    have h10 : f x = 0 ∨ f x = 1 := by
      show (if pp r x / 40 = gpg (at_ r) (pp r) x then (0 : Int) else 1) = 0 ∨ (if pp r x / 40 = gpg (at_ r) (pp r) x then (0 : Int) else 1) = 1
      split
      · exact Or.inl rfl
      · exact Or.inr rfl
    rw [g_L_cost_L18, hp, bs, if_neg (by omega), jp_t, if_pos (by omega), k2, bs, ld_t k rfl (by have := h.1.2; omega), bs, ishr16 v1.1 (by omega), k3, dv_t (by omega), bs]
    dsimp only
    rw [jp_t]
    have hgo : ∀ z : Int, z = f x → (Option.bind (ck (c + sumN f x + z)) fun v11 => Option.bind (ck ((x : Int) + 1)) fun v12 => g_L_cost_L18 T r ir 28 t 64 n m (pp r x / 40) v11 v12) = g_L_cost_L18 T r ir 28 t 64 n m (pp r x / 40) (c + (sumN f x + f x)) ((x + 1 : Nat) : Int) := fun z hz => by
      rw [hz, ck_t (by omega), bs, ck_t (by omega), bs]
      congr 1
      omega
    by_cases e : pp r x / 40 = gpg (at_ r) (pp r) x
    · rw [if_pos e]
      exact hgo 0 (if_pos e).symm
    · rw [if_neg e]
      exact hgo 1 (if_neg e).symm
  · show g_L_cost_L18 T r ir 28 t 64 n (m + 1) _ (c + sumN f (np r).toNat) (((np r).toNat : Nat) : Int) = _
    rw [g_L_cost_L18, hp, bs, if_pos (by omega)]
end READ
theorem sumN_lo {f : Nat → Int} {m n : Nat} (hmn : m ≤ n) (h : ∀ i, m ≤ i → i < n → f i = 0) : sumN f n = sumN f m := sumN_cut hmn h
theorem l_costs {T β : Blk} {q t n ir : Nat} {s : Nat → Int} (h : TT T q t s n) (hB : RBc (isr s) β s) (hL : LRow T ir s) : g_L_costs T ir 28 t 64 n = some (sumN (cs β s) 30) := by
  have hF := hB.2.2.2.1
  have e6 : sumN (cs β s) 30 = sumN (cs β s) 6 := sumN_lo (by omega) (fun i h1 h2 => if_neg (by have := hL.2 i h1 h2; omega))
  have hb : ∀ x, x ≤ 6 → 0 ≤ sumN (cs β s) x ∧ sumN (cs β s) x ≤ x * 42 := fun x hx => ⟨sumN_nonneg (fun i hi => (hB.cs (show i < 30 by omega)).1), sumN_le (fun i hi => (hB.cs (show i < 30 by omega)).2)⟩
  rw [e6]
  refine loopUp (F := fun m x => g_L_costs_L5 T ir 28 t 64 n m (sumN (cs β s) x) (x : Int)) 6 (fun m x hx => ?_) (fun m => ?_) fu 0 (by omega) (fu_lt (by omega))
  · show g_L_costs_L5 T ir 28 t 64 n (m + 1) (sumN (cs β s) x) (x : Int) = g_L_costs_L5 T ir 28 t 64 n m (sumN (cs β s) x + cs β s x) ((x + 1 : Nat) : Int)
    have h9 := hb x (by omega)
    have h10 := hB.cs (show x < 30 by omega)
    rw [g_L_costs_L5, if_neg (by omega), ld_t (4 * x + 1) (by omega) (by omega), bs, jp_t]
    rcases hL.1 x hx with z | z
    · have hc := l_cost (ir := ir) h hF (show x < 7 by omega) z.1 (by rw [z.2.2.2.2.1]; exact (hB.2.2.2.2.1 x (by omega) z.1).2.2.2 z.1 |>.1) (by rw [z.2.2.2.2.2]; exact (hB.2.2.2.2.1 x (by omega) z.1).2.2.2 z.1 |>.2)
      have ec : cs β s x = costV (β 10 x) (β 9 x) (PP β x) (β 11 x).toNat := if_pos z.1
      rw [if_pos (by omega), hc, bs, ← ec]
      dsimp only
      rw [ck_t (by omega), bs, ck_t (by omega), bs]
      rfl
    · have ec : cs β s x = 0 := if_neg (by omega)
      rw [if_neg (by omega), ec]
      dsimp only
      rw [ck_t (by omega), bs, ck_t (by omega), bs]
      rfl
  · show g_L_costs_L5 T ir 28 t 64 n (m + 1) (sumN (cs β s) 6) ((6 : Nat) : Int) = _
    rw [g_L_costs_L5, if_pos (by omega)]
