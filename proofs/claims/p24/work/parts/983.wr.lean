/-! PURE: a row written: what holds behind it *)  -/
theorem INVc.us {T : Blk} {s at_ ho np : Nat → Int} {w : Nat → Prop} {pp : Nat → Nat → Int} (hL : ∀ x, x < 30 → w x → x < 6) (h5 : ∀ x, x < 6 → Wg cl s x ≤ 33 ∧ Wg one s x ≤ 8) (hF : FI s w at_ ho np pp (fun _ => False)) : Us s ≤ 198 ∧ ∀ n, TT T 0 2 s n → n ≤ 48 := by
  have hz : ∀ (g : Int → Int) (g0 : g 0 = 0) (r : Nat), 6 ≤ r → r < 32 → Wg g s r = 0 := fun g g0 r h1 h2 => w_no g0 hF (fun z => by
    have := hL r z.1 z.2
    omega)
  refine ⟨?_, fun n hn => ?_⟩
  · rw [Us_tot, sumN_cut (m := 6) (by omega) (fun i h1 h2 => hz cl cl_0 i h1 h2)]
    have := sumN_le (f := Wg cl s) (n := 6) (b := 33) (fun i hi => (h5 i hi).1)
    omega
  · have h1 := hn.cnt
    have h1 : (n : Int) = sumN (Wg one s) 6 := h1.trans (sumN_cut (m := 6) (by omega) (fun i h1 h2 => hz one one_0 i h1 h2))
    have := sumN_le (f := Wg one s) (n := 6) (b := 8) (fun i hi => (h5 i hi).2)
    omega
/-- row x of the law beside row x of the reference -/
def LR1 (T : Blk) (ir : Nat) (s : Nat → Int) (x : Nat) : Prop := (pt s x 0 = 1 ∧ T ir (4 * x) = pt s x 1 ∧ T ir (4 * x + 1) = pt s x 2 ∧ (0 ≤ pt s x 2 ∧ pt s x 2 ≤ 24) ∧ T ir (4 * x + 2) = pt s x 3 ∧ T ir (4 * x + 3) = pt s x 4) ∨ (pt s x 0 = 0 ∧ T ir (4 * x + 1) = -1)
theorem RefW.pts {r : Nat} {τ τ' : Blk} (h : RefW r τ τ') {x k : Nat} (hx : x < 30) (hk : k < 12) (hr : r < 30) (hne : x ≠ r ∨ k < 2) : pt (τ' 1) x k = pt (τ 1) x k := by
  unfold pt
  exact h.2.2 _ (by omega) (by unfold UT; omega) (by omega) (by omega)
theorem wr_end {T T' τ τ' : Blk} {s0 : Nat → Int} {r n : Nat} {len : Int} (hr : r < 6) (hlen : 0 ≤ len ∧ len ≤ 24) (p1 : ∀ x, x < 6 → x ≠ r → LR1 T 1 (τ 1) x) (p1r : pt (τ 1) r 0 = 1 ∧ T 1 (4 * r) = pt (τ 1) r 1) (p1n : ∀ x, 6 ≤ x → x < 30 → pt (τ 1) x 0 = 0) (p2 : T 0 0 = τ 1 0 ∧ T 0 1 = τ 1 1 ∧ T 0 2 = τ 1 2) (p2r : 4 ≤ τ 1 1) (p3 : ∀ x, x < 6 → x ≠ r → pt (τ 1) x 0 = 1 → LEx T x (lt (τ 1) x) (pt (τ 1) x 2).toNat) (p4 : LEx T r (τ 8) len.toNat) (p5 : ∀ x, x < 6 → x ≠ r → Wg cl s0 x ≤ 33 ∧ Wg one s0 x ≤ 8) (hw : WEnd 0 2 1 r 6 n len T T' τ τ' s0) : INVc T' (τ' 1) := by
  obtain ⟨⟨n', w1, w2⟩, w3, w4, ⟨w5, w6, w7⟩, w8, w9, ⟨w10, w11, w12, w13⟩, w14, w15, w16⟩ := hw
  have hp : ∀ x k, x < 30 → k < 12 → (x ≠ r ∨ k < 2) → pt (τ' 1) x k = pt (τ 1) x k := fun x k hx hk hne => w4.pts hx hk (by omega) hne
  have hj : ∀ j, j < 3 → τ' 1 j = τ 1 j := fun j hj => w4.2.2 j (by omega) (by unfold UT; omega) (by omega) (by omega)
  refine ⟨⟨n', w1⟩, ⟨fun x hx => ?_, fun x h1 h2 => by rw [hp x 0 h2 (by omega) (Or.inl (by omega))]; exact p1n x h1 h2⟩, ?_, fun x hx hi => ?_, fun x hx => ?_, by rw [hj 1 (by omega)]; exact p2r⟩
  · by_cases e : x = r
    · subst e
      rw [hp x 0 (by omega) (by omega) (Or.inr (by omega)), hp x 1 (by omega) (by omega) (Or.inr (by omega)), w13 (4 * x) (by omega) (by omega) (by omega), w10, w11, w12, w5]
      exact Or.inl ⟨p1r.1, p1r.2, rfl, hlen, rfl, rfl⟩
    · have h1 := p1 x hx e
      rw [hp x 0 (by omega) (by omega) (Or.inl e), hp x 1 (by omega) (by omega) (Or.inl e), hp x 2 (by omega) (by omega) (Or.inl e), hp x 3 (by omega) (by omega) (Or.inl e), hp x 4 (by omega) (by omega) (Or.inl e), w13 (4 * x) (by omega) (by omega) (by omega), w13 (4 * x + 1) (by omega) (by omega) (by omega), w13 (4 * x + 2) (by omega) (by omega) (by omega), w13 (4 * x + 3) (by omega) (by omega) (by omega)]
      exact h1
  · rw [w9 0 (by omega), w9 1 (by omega), w9 2 (by omega), hj 0 (by omega), hj 1 (by omega), hj 2 (by omega)]
    exact p2
  · have h6 : T' 6 = T 6 := w8 6 (by omega) (by omega) (by omega)
    by_cases e : x = r
    · subst e
      rw [w5]
      exact p4.congr (fun j _ => LV_congr h6) (fun k hk => w7 k (by omega))
    · rw [hp x 0 (by omega) (by omega) (Or.inl e)] at hi
      have h1 := p1 x hx e
      rcases h1 with ⟨-, -, -, h2, -⟩ | ⟨z, -⟩
      · rw [hp x 2 (by omega) (by omega) (Or.inl e)]
        exact (p3 x hx e hi).congr (fun j _ => LV_congr h6) (fun k hk => lt_c (fun m hm => hp x _ (by omega) (by omega) (Or.inl e)) (by omega))
      · omega
  · by_cases e : x = r
    · subst e
      omega
    · rw [(w14 x e).1, (w14 x e).2]
      exact p5 x hx e
/-- a row that is there is written again -/
theorem wr_again {T0 T u β : Blk} {r : Nat} {a len : Int} (hI : INVc T0 (u 1)) (hB : RB β (u 1)) (hr : r < 30) (hi : pt (u 1) r 0 = 1) (hk : rk β a = r) (hT : ∀ c, c ≠ 6 → T c = T0 c) (hle : ∀ x j, x < 6 → x ≠ r → j < 2 → LV T (2 * x + j) = LV T0 (2 * x + j)) (h10 : u 0 10 = len) (hlen : 0 ≤ len ∧ len ≤ 24) (htold : ∀ k : Nat, (k : Int) < len → 0 ≤ u 8 k ∧ u 8 k < 32) (p4 : LEx T r (u 8) len.toNat) : ∃ T' τ', f_X5_writes u a = some (1, τ') ∧ g_L_write T r len 0 0 4 1 28 2 64 = some (1, T') ∧ INVc T' (τ' 1) ∧ (∀ c, c ≠ 0 → c ≠ 1 → c ≠ 3 → c ≠ 9 → τ' c = u c) ∧ ∀ j, j ≠ 12 → τ' 0 j = u 0 j := by
  obtain ⟨⟨n, a1⟩, a2, ⟨c0, c1, c2⟩, a4, a5, a6⟩ := id hI
  obtain ⟨⟨hS, hRW, hP, hF, hLI, hZ, hW⟩, -⟩ := id hB
  obtain ⟨u3, m1, m2, m3, -⟩ := x5_moves (σ := u) (i1 := 1) (n1 := 763) (i3 := 3) (n3 := 763) (a2 := 0) (a4 := 0) 0 0 (by omega) (by omega) (by omega) (by omega) (by omega)
  obtain ⟨l6, l0, l1, l2, l3, l4⟩ := a2.live hr hi
  have h34 := (hLI r hr hi).2.2.2 hi
  have e1 : u3 1 = u 1 := m2 1 (by omega)
  obtain ⟨us1, us2⟩ := INVc.us (T := T0) (fun x hx hw => (a2.live hx hw).1) a5 hF
  have hn := us2 n a1
  obtain ⟨T', τ', f1, f2, f3⟩ := lw_again (q := 0) (t := 2) (ir := 1) (r := r) (n := n) (rem := 6) (len := len) (T := T) (τ := u3) (w := isr (u 1)) (by omega) (by omega) (by omega) (by omega) hi (by rw [e1]; exact a1.congr (by rw [hT 0 (by omega)]) (fun k _ => by rw [hT 2 (by omega)]) (fun _ _ => rfl)) (by rw [e1]; exact hP.1) (by rw [e1]; exact hF) (by rw [e1]; exact h34.1) (by rw [e1]; exact h34.2) (by rw [hT 1 (by omega), l3]; exact h34.1) (by rw [hT 1 (by omega), l4]; exact h34.2) (by rw [m2 0 (by omega)]; exact h10) ⟨hlen.1, by omega⟩ (fun k hk => by rw [m2 8 (by omega)]; exact htold k hk) (by rw [hT 0 (by omega), e1]; exact ⟨c0, hS.1.2⟩) (by rw [hT 0 (by omega), e1]; exact ⟨c1, a6, hS.2.1.2.2⟩) (by omega) (by omega) (by rw [e1]; omega)
  refine ⟨T', τ', ?_, f2, ?_, fun c d0 d1 d3 d9 => ?_, fun j hj => ?_⟩
  · unfold f_X5_writes
    rw [x5_rowWith hRW, hk, if_neg (show ¬ (r : Int) = -1 by omega), bs, jp_t, if_pos (show (r : Int) ≠ -6 by omega), m1, bs, jp_t, if_pos (show (r : Int) ≠ -6 by omega), f1, bd2_t]
    dsimp only
    rw [if_pos (show (1 : Int) ≠ 0 by decide), ckB_t (Or.inr rfl), bs]
  · refine wr_end (r := r) (n := n) l6 hlen (fun x hx hne => ?_) ?_ (fun x h1 h2 => by rw [e1]; exact a2.2 x h1 h2) ?_ (by rw [e1]; exact a6) (fun x hx hne hix => ?_) ?_ (fun x hx _ => by rw [e1]; exact a5 x hx) f3
    · rw [e1]
      unfold LR1
      rw [hT 1 (by omega)]
      exact a2.1 x hx
    · rw [e1, hT 1 (by omega)]
      exact ⟨hi, l0⟩
    · rw [e1, hT 0 (by omega)]
      exact ⟨c0, c1, c2⟩
    · rw [e1] at hix ⊢
      exact (a4 x hx hix).congr (fun j hj => hle x j hx hne hj) (fun _ _ => rfl)
    · rw [m2 8 (by omega)]
      exact p4
  · rw [f3.2.2.1.1 c d1 d9 d0, m2 c d3]
  · rw [f3.2.2.1.2.1 j hj, m2 0 (by omega)]
