/-! PURE: the pad read whole, on both sides *)  -/
def stp (π : Blk) : Nat → Nat
  | 0 => 0
  | i + 1 => (π 3 i).toNat + (π 4 i).toNat + 1
/-- row i of the pad, as the class keeps it -/
def PR (c : Nat → Int) (len : Nat) (π : Blk) (i : Nat) : Prop := ∃ d : Nat, 1 ≤ d ∧ π 3 i = ((stp π i + d + 1 : Nat) : Int) ∧ c (stp π i + d) = 61 ∧ (∀ n, n < d → c (stp π i + n) ≠ 61) ∧ (∀ n, n ≤ d → 0 ≤ kv c (stp π i) n ∧ kv c (stp π i) n < 100) ∧ π 2 i = kv c (stp π i) d ∧ (0 ≤ π 4 i ∧ π 4 i ≤ 40) ∧ (∀ n : Nat, (n : Int) < π 4 i → 97 ≤ c (stp π i + d + 1 + n) ∧ c (stp π i + d + 1 + n) ≤ 122) ∧ stp π i + d + 1 + (π 4 i).toNat ≤ len
theorem stp_c {π π' : Blk} {i : Nat} (h : ∀ x, x < i → π' 3 x = π 3 x ∧ π' 4 x = π 4 x) : stp π' i = stp π i := by
  match i, h with
  | 0, _ => rfl
  | i + 1, h =>
    show (π' 3 i).toNat + (π' 4 i).toNat + 1 = (π 3 i).toNat + (π 4 i).toNat + 1
    rw [(h i (by omega)).1, (h i (by omega)).2]
theorem PR.congr {c : Nat → Int} {len : Nat} {π π' : Blk} {i : Nat} (h : PR c len π i) (e : ∀ x, x ≤ i → π' 2 x = π 2 x ∧ π' 3 x = π 3 x ∧ π' 4 x = π 4 x) : PR c len π' i := by
  have es : stp π' i = stp π i := stp_c (fun x hx => (e x (by omega)).2)
  have e1 := e i (Nat.le_refl i)
  unfold PR at h ⊢
  rw [es, e1.1, e1.2.1, e1.2.2]
  exact h
def EN (c : Nat → Int) (π : Blk) (i : Nat) : Prop := c ((π 3 i).toNat + (π 4 i).toNat) = 59
theorem EN.congr {c : Nat → Int} {π π' : Blk} {i : Nat} (h : EN c π i) (e : π' 3 i = π 3 i ∧ π' 4 i = π 4 i) : EN c π' i := by
  unfold EN at h ⊢
  rw [e.1, e.2]
  exact h
/-- a key is awaited or begun -/
def IK (c : Nat → Int) (len k : Nat) (π : Blk) (key lets : Int) : Prop := ∃ R d : Nat, π 0 2 = (R : Int) ∧ π 0 6 = 0 ∧ π 0 7 = (d : Int) ∧ k = stp π R + d ∧ 3 * R + d ≤ k ∧ π 0 8 = kv c (stp π R) d ∧ (∀ n, n ≤ d → 0 ≤ kv c (stp π R) n ∧ kv c (stp π R) n < 100) ∧ (∀ n, n < d → c (stp π R + n) ≠ 61) ∧ ((d = 0 ∧ key = -6) ∨ (d = 1 ∧ key = π 0 8 ∧ π 0 8 < 10) ∨ (d = 2 ∧ key = π 0 8 ∧ 10 ≤ π 0 8)) ∧ lets = -6 ∧ (∀ i, i < R → PR c len π i) ∧ ∀ i, i < R → EN c π i
/-- a text has begun -/
def IT (c : Nat → Int) (len k : Nat) (π : Blk) (lets : Int) : Prop := ∃ R : Nat, π 0 2 = ((R + 1 : Nat) : Int) ∧ π 0 6 = 1 ∧ k = (π 3 R).toNat + (π 4 R).toNat ∧ 3 * R + 2 ≤ k ∧ lets = π 4 R ∧ (∀ i, i < R + 1 → PR c len π i) ∧ ∀ i, i < R → EN c π i
theorem up2_row1 {π : Blk} {c R x : Nat} {v : Int} (h : x ≠ R) : up2 π c R v c x = π c x := up2_n (Or.inr h)
theorem ik_digit {c : Nat → Int} {len k : Nat} {π : Blk} {key lets : Int} {R d : Nat} (h2 : π 0 2 = (R : Int)) (h6 : π 0 6 = 0) (h7 : π 0 7 = (d : Int)) (hk : k = stp π R + d) (h3 : 3 * R + d ≤ k) (h8 : π 0 8 = kv c (stp π R) d) (hv : ∀ n, n ≤ d → 0 ≤ kv c (stp π R) n ∧ kv c (stp π R) n < 100) (hn : ∀ n, n < d → c (stp π R + n) ≠ 61) (hP : ∀ i, i < R → PR c len π i) (hE : ∀ i, i < R → EN c π i) (hl : lets = -6) (hd : (d = 0 ∧ key = -6) ∨ (d = 1 ∧ key = π 0 8 ∧ 0 < π 0 8 ∧ π 0 8 < 10)) (hc : 48 ≤ c k ∧ c k ≤ 57) : IK c len (k + 1) (up2 (up2 π 0 8 (π 0 8 * 10 + c k - 48)) 0 7 (π 0 7 + 1)) (if key = -6 then c k - 48 else 10 * key + c k - 48) lets ∧ π 0 8 * 10 + c k - 48 < 100 := by
  have e0 : kv c (stp π R) 0 = 0 := rfl
  have eD : kv c (stp π R) (d + 1) = kv c (stp π R) d * 10 + c k - 48 := by rw [hk]; rfl
  generalize hp : up2 (up2 π 0 8 (π 0 8 * 10 + c k - 48)) 0 7 (π 0 7 + 1) = π'
  have hne : ∀ x, x ≠ 0 → π' x = π x := fun x hx => by rw [← hp, up2_ne hx, up2_ne hx]
  have hs : ∀ i, stp π' i = stp π i := fun i => stp_c (fun x _ => by rw [hne 3 (by omega), hne 4 (by omega)]; exact ⟨rfl, rfl⟩)
  have p2 : π' 0 2 = R := by rw [← hp, up2_n (by omega), up2_n (by omega)]; exact h2
  have p6 : π' 0 6 = 0 := by rw [← hp, up2_n (by omega), up2_n (by omega)]; exact h6
  have p7 : π' 0 7 = ((d + 1 : Nat) : Int) := by rw [← hp, up2_s]; omega
  have p8 : π' 0 8 = π 0 8 * 10 + c k - 48 := by rw [← hp, up2_n (by omega), up2_s]
  have hw : 0 ≤ π 0 8 * 10 + c k - 48 ∧ π 0 8 * 10 + c k - 48 < 100 := by
    rcases hd with ⟨rfl, -⟩ | ⟨-, -, h4, h5⟩
    · rw [h8, e0]; omega
    · omega
  refine ⟨⟨R, d + 1, p2, p6, p7, by rw [hs]; omega, by omega, by rw [p8, hs, eD, h8], fun n hn2 => ?_, fun n hn2 => ?_, ?_, hl, fun i hi => (hP i hi).congr (fun x _ => by rw [hne 2 (by omega), hne 3 (by omega), hne 4 (by omega)]; exact ⟨rfl, rfl, rfl⟩), fun i hi => (hE i hi).congr (by rw [hne 3 (by omega), hne 4 (by omega)]; exact ⟨rfl, rfl⟩)⟩, hw.2⟩
  · rw [hs]
    by_cases e : n = d + 1
    · rw [e, eD, ← h8]; exact hw
    · exact hv n (by omega)
  · rw [hs]
    by_cases e : n = d
    · rw [e, ← hk]; omega
    · exact hn n (by omega)
  · rw [p8]
    rcases hd with ⟨rfl, h4⟩ | ⟨rfl, h4, h5, h9⟩
    · rw [if_pos h4]
      rw [h8, e0]
      exact Or.inr (Or.inl ⟨rfl, by omega, by omega⟩)
    · rw [if_neg (show ¬ key = -6 by omega)]
      exact Or.inr (Or.inr ⟨rfl, by omega, by omega⟩)
theorem it_begin {c : Nat → Int} {len k : Nat} {π : Blk} {R d : Nat} (hd : 1 ≤ d) (h2 : π 0 2 = (R : Int)) (hk : k = stp π R + d) (h3 : 3 * R + d ≤ k) (h8 : π 0 8 = kv c (stp π R) d) (hv : ∀ n, n ≤ d → 0 ≤ kv c (stp π R) n ∧ kv c (stp π R) n < 100) (hn : ∀ n, n < d → c (stp π R + n) ≠ 61) (hP : ∀ i, i < R → PR c len π i) (hE : ∀ i, i < R → EN c π i) (hc : c k = 61) (hl : k < len) : IT c len (k + 1) (bgT π R k) 0 := by
  generalize hp : bgT π R k = π'
  have q2 : ∀ x, π' 2 x = if x = R then π 0 8 else π 2 x := fun x => by
    rw [← hp]
    unfold bgT
    rw [up2_ne (by omega), up2_ne (by omega), up2_ne (by omega), up2_ne (by omega)]
    split
    · rename_i e; rw [e, up2_s]
    · exact up2_row1 (by assumption)
  have q3 : ∀ x, π' 3 x = if x = R then (k : Int) + 1 else π 3 x := fun x => by
    rw [← hp]
    unfold bgT
    rw [up2_ne (by omega), up2_ne (by omega), up2_ne (by omega)]
    split
    · rename_i e; rw [e, up2_s]
    · rw [up2_row1 (by assumption), up2_ne (by omega)]
  have q4 : ∀ x, π' 4 x = if x = R then 0 else π 4 x := fun x => by
    rw [← hp]
    unfold bgT
    rw [up2_ne (by omega), up2_ne (by omega)]
    split
    · rename_i e; rw [e, up2_s]
    · rw [up2_row1 (by assumption), up2_ne (by omega), up2_ne (by omega)]
  have q02 : π' 0 2 = ((R + 1 : Nat) : Int) := by
    rw [← hp]
    unfold bgT
    rw [up2_n (by omega), up2_s]
    omega
  have q06 : π' 0 6 = 1 := by
    rw [← hp]
    unfold bgT
    rw [up2_s]
  have hlt : ∀ x, x < R → π' 2 x = π 2 x ∧ π' 3 x = π 3 x ∧ π' 4 x = π 4 x := fun x hx => by
    rw [q2, q3, q4, if_neg (by omega), if_neg (by omega), if_neg (by omega)]
    exact ⟨rfl, rfl, rfl⟩
  have hs : stp π' R = stp π R := stp_c (fun x hx => (hlt x hx).2)
  have q3R : π' 3 R = (k : Int) + 1 := by rw [q3, if_pos rfl]
  have q4R : π' 4 R = 0 := by rw [q4, if_pos rfl]
  have q2R : π' 2 R = π 0 8 := by rw [q2, if_pos rfl]
  refine ⟨R, q02, q06, by rw [q3R, q4R]; omega, by omega, q4R.symm, fun i hi => ?_, fun i hi => (hE i hi).congr (hlt i hi).2⟩
  by_cases e : i = R
  · subst e
    refine ⟨d, hd, by rw [q3R, hs]; omega, by rw [hs, ← hk]; exact hc, by rw [hs]; exact hn, by rw [hs]; exact hv, by rw [q2R, hs]; exact h8, by rw [q4R]; omega, fun n hn2 => by rw [q4R] at hn2; omega, by rw [q4R, hs]; omega⟩
  · exact (hP i (by omega)).congr (fun x hx => hlt x (by omega))
theorem it_letter {c : Nat → Int} {len k : Nat} {π : Blk} {lets : Int} {R : Nat} (h2 : π 0 2 = ((R + 1 : Nat) : Int)) (h6 : π 0 6 = 1) (hk : k = (π 3 R).toNat + (π 4 R).toNat) (h3 : 3 * R + 2 ≤ k) (hl : lets = π 4 R) (hP : ∀ i, i < R + 1 → PR c len π i) (hE : ∀ i, i < R → EN c π i) (hc : (97 ≤ c k ∧ c k ≤ 122) ∧ π 4 R < 40) (hlen : k < len) : IT c len (k + 1) (up2 π 4 R (π 4 R + 1)) (lets + 1) := by
  obtain ⟨d, d1, d2, d3, d4, d5, d6, d7, d8, d9⟩ := hP R (by omega)
  generalize hp : up2 π 4 R (π 4 R + 1) = π'
  have hne : ∀ x, x ≠ 4 → π' x = π x := fun x hx => by rw [← hp, up2_ne hx]
  have q4R : π' 4 R = π 4 R + 1 := by rw [← hp, up2_s]
  have q4 : ∀ x, x ≠ R → π' 4 x = π 4 x := fun x hx => by rw [← hp, up2_row1 hx]
  have hlt : ∀ x, x < R → π' 2 x = π 2 x ∧ π' 3 x = π 3 x ∧ π' 4 x = π 4 x := fun x hx => by
    rw [hne 2 (by omega), hne 3 (by omega), q4 x (by omega)]
    exact ⟨rfl, rfl, rfl⟩
  have hs : stp π' R = stp π R := stp_c (fun x hx => (hlt x hx).2)
  refine ⟨R, by rw [hne 0 (by omega)]; exact h2, by rw [hne 0 (by omega)]; exact h6, by rw [hne 3 (by omega), q4R]; omega, by omega, by rw [q4R, hl], fun i hi => ?_, fun i hi => (hE i hi).congr (hlt i hi).2⟩
  by_cases e : i = R
  · subst e
    refine ⟨d, d1, by rw [hne 3 (by omega), hs]; exact d2, by rw [hs]; exact d3, by rw [hs]; exact d4, by rw [hs]; exact d5, by rw [hne 2 (by omega), hs]; exact d6, by rw [q4R]; omega, fun n hn => ?_, by rw [q4R, hs]; omega⟩
    rw [q4R] at hn
    rw [hs]
    by_cases e2 : (n : Int) < π 4 i
    · exact d8 n e2
    · rw [show stp π i + d + 1 + n = k by omega]
      exact hc.1
  · exact (hP i hi).congr (fun x hx => hlt x (by omega))
theorem ik_end {c : Nat → Int} {len k : Nat} {π : Blk} {R : Nat} (h2 : π 0 2 = ((R + 1 : Nat) : Int)) (hk : k = (π 3 R).toNat + (π 4 R).toNat) (h3 : 3 * R + 2 ≤ k) (hP : ∀ i, i < R + 1 → PR c len π i) (hE : ∀ i, i < R → EN c π i) (hc : c k = 59) : IK c len (k + 1) (up2 (up2 (up2 π 0 6 0) 0 7 0) 0 8 0) (-6) (-6) := by
  generalize hp : up2 (up2 (up2 π 0 6 0) 0 7 0) 0 8 0 = π'
  have hne : ∀ x, x ≠ 0 → π' x = π x := fun x hx => by rw [← hp, up2_ne hx, up2_ne hx, up2_ne hx]
  have hs : ∀ i, stp π' i = stp π i := fun i => stp_c (fun x _ => by rw [hne 3 (by omega), hne 4 (by omega)]; exact ⟨rfl, rfl⟩)
  have e0 : ∀ s, kv c s 0 = 0 := fun s => rfl
  refine ⟨R + 1, 0, by rw [← hp, up2_n (by omega), up2_n (by omega), up2_n (by omega)]; exact h2, by rw [← hp, up2_n (by omega), up2_n (by omega), up2_s], by rw [← hp, up2_n (by omega), up2_s]; rfl, ?_, by omega, by rw [← hp, up2_s, e0], fun n hn => ?_, fun n hn => by omega, Or.inl ⟨rfl, rfl⟩, rfl, fun i hi => (hP i hi).congr (fun x _ => by rw [hne 2 (by omega), hne 3 (by omega), hne 4 (by omega)]; exact ⟨rfl, rfl, rfl⟩), fun i hi => ?_⟩
  · rw [hs]
    show k + 1 = (π 3 R).toNat + (π 4 R).toNat + 1 + 0
    omega
  · rw [show n = 0 by omega, e0]
    omega
  · have h : EN c π i := by
      by_cases e : i = R
      · rw [e]
        unfold EN
        rw [← hk]
        exact hc
      · exact hE i (by omega)
    exact h.congr (by rw [hne 3 (by omega), hne 4 (by omega)]; exact ⟨rfl, rfl⟩)
/-- the two scans beside each other, from position k on -/
def SC (τ : Blk) (len : Nat) (n k : Nat) (π : Blk) (key lets : Int) : Prop := ∃ π' : Blk, (π' 0 1 = π 0 1 ∧ π' 1 = π 1) ∧ ((∃ v : Nat, (∀ j, f_X2_read_L11 j n (k : Int) π = some ((v : Int), π')) ∧ ∀ j, f_X5_findFault_L8 τ j n key lets (k : Int) = some (v : Int)) ∨ (∃ key' lets' : Int, (∀ j, f_X2_read_L11 j n (k : Int) π = j π') ∧ (∀ j, f_X5_findFault_L8 τ j n key lets (k : Int) = j lets') ∧ (IK (τ 7) len len π' key' lets' ∨ IT (τ 7) len len π' lets')))
theorem SC.next {τ : Blk} {len n k : Nat} {π π1 : Blk} {key lets key1 lets1 : Int} (h : SC τ len n (k + 1) π1 key1 lets1) (h1 : π1 0 1 = π 0 1) (h2 : π1 1 = π 1) (e1 : ∀ j, f_X2_read_L11 j (n + 1) (k : Int) π = f_X2_read_L11 j n ((k + 1 : Nat) : Int) π1) (e2 : ∀ j, f_X5_findFault_L8 τ j (n + 1) key lets (k : Int) = f_X5_findFault_L8 τ j n key1 lets1 ((k + 1 : Nat) : Int)) : SC τ len (n + 1) k π key lets := by
  obtain ⟨π', a, b⟩ := h
  refine ⟨π', ⟨a.1.trans h1, a.2.trans h2⟩, ?_⟩
  rcases b with ⟨v, b1, b2⟩ | ⟨key', lets', b1, b2, b3⟩
  · exact Or.inl ⟨v, fun j => (e1 j).trans (b1 j), fun j => (e2 j).trans (b2 j)⟩
  · exact Or.inr ⟨key', lets', fun j => (e1 j).trans (b1 j), fun j => (e2 j).trans (b2 j), b3⟩
theorem SC.bad {τ : Blk} {len n k : Nat} {π π1 : Blk} {key lets : Int} (h1 : π1 0 1 = π 0 1) (h2 : π1 1 = π 1) (e1 : ∀ j, f_X2_read_L11 j (n + 1) (k : Int) π = some ((k : Int), π1)) (e2 : ∀ j, f_X5_findFault_L8 τ j (n + 1) key lets (k : Int) = some (k : Int)) : SC τ len (n + 1) k π key lets := ⟨π1, ⟨h1, h2⟩, Or.inl ⟨k, e1, e2⟩⟩
theorem scan_key {τ : Blk} {len n k : Nat} {π : Blk} {key lets : Int} (hτ : τ 0 8 = (len : Int)) (h80 : len ≤ 80) (hk : k < len) (h1 : π 0 1 = (len : Int)) (hc : π 1 k = τ 7 k) (ih : ∀ π1 key1 lets1, π1 0 1 = π 0 1 → π1 1 = π 1 → (IK (τ 7) len (k + 1) π1 key1 lets1 ∨ IT (τ 7) len (k + 1) π1 lets1) → SC τ len n (k + 1) π1 key1 lets1) (h : IK (τ 7) len k π key lets) : SC τ len (n + 1) k π key lets := by
  obtain ⟨R, d, r2, r6, r7, rk, r3, r8, rv, rn, rd, rl, rP, rE⟩ := h
  have hv8 := rv d (Nat.le_refl d)
  rw [← r8] at hv8
  have hlt : (k : Int) < π 0 1 := by omega
  have hltτ : (k : Int) < τ 0 8 := by omega
  have hk80 : k < 80 := by omega
  obtain ⟨v, hv⟩ : ∃ v, τ 7 k = v := ⟨_, rfl⟩
  rw [hv] at hc
  have hL0 : isL v lets = 0 := by unfold isL; rw [if_neg (by omega)]
  have hE0 : isE v lets = 0 := by unfold isE; rw [if_neg (by omega)]
  by_cases c61 : v = 61
  · have hD0 : isD v key lets = 0 := by unfold isD; rw [if_neg (by omega)]
    by_cases d0 : d = 0
    · have hS0 : isS v key lets = 0 := by unfold isS; rw [if_neg (by omega)]
      exact SC.bad rfl rfl (fun j => by rw [rd_key hlt hk80 r6 hc (ky_eq0 c61 (by omega)), if_neg (show ¬ ((0 : Int) ≠ 0) by decide)]) (fun j => ff_0 hltτ hk80 hv hD0 hS0 hL0 hE0)
    · have hS1 : isS v key lets = 1 := by unfold isS; rw [if_pos (by omega)]
      refine SC.next (ih (bgT π R k) key 0 ?_ ?_ (Or.inr ?_)) ?_ ?_ (fun j => ?_) (fun j => ff_S hltτ hk80 hv hD0 hS1 hL0 hE0)
      · unfold bgT
        rw [up2_n (by omega), up2_n (by omega), up2_ne (by omega), up2_ne (by omega), up2_ne (by omega)]
      · unfold bgT
        rw [up2_ne (by omega), up2_ne (by omega), up2_ne (by omega), up2_ne (by omega), up2_ne (by omega)]
      · exact it_begin (by omega) r2 rk r3 r8 rv rn rP rE (hv.trans c61) hk
      · unfold bgT
        rw [up2_n (by omega), up2_n (by omega), up2_ne (by omega), up2_ne (by omega), up2_ne (by omega)]
      · unfold bgT
        rw [up2_ne (by omega), up2_ne (by omega), up2_ne (by omega), up2_ne (by omega), up2_ne (by omega)]
      · rw [rd_key hlt hk80 r6 hc (ky_eq1 (R := R) c61 (by omega) r2 (by omega) (by omega)), if_pos (show (1 : Int) ≠ 0 by decide)]
  · have hS0 : isS v key lets = 0 := by unfold isS; rw [if_neg (by omega)]
    by_cases cd : (48 ≤ v ∧ v ≤ 57) ∧ (π 0 7 ≤ 0 ∨ π 0 8 ≠ 0)
    · have ed := ky_dig (π := π) (k := k) cd.1 cd.2 hv8 (by omega)
      by_cases d2 : d = 2
      · have hD0 : isD v key lets = 0 := by unfold isD; rw [if_neg (by omega)]
        rw [if_pos (show 100 ≤ π 0 8 * 10 + v - 48 by omega)] at ed
        exact SC.bad (π1 := up2 (up2 π 0 8 (π 0 8 * 10 + v - 48)) 0 7 (π 0 7 + 1)) (by rw [up2_n (by omega), up2_n (by omega)]) (by rw [up2_ne (by omega), up2_ne (by omega)]) (fun j => by rw [rd_key hlt hk80 r6 hc ed, if_neg (show ¬ ((0 : Int) ≠ 0) by decide)]) (fun j => ff_0 hltτ hk80 hv hD0 hS0 hL0 hE0)
      · have hD1 : isD v key lets = 1 := by unfold isD; rw [if_pos (by omega)]
        have hd' : (d = 0 ∧ key = -6) ∨ (d = 1 ∧ key = π 0 8 ∧ 0 < π 0 8 ∧ π 0 8 < 10) := by omega
        have hI := ik_digit (c := τ 7) (len := len) r2 r6 r7 rk r3 r8 rv rn rP rE rl hd' (by rw [hv]; exact cd.1)
        rw [hv] at hI
        rw [if_neg (show ¬ 100 ≤ π 0 8 * 10 + v - 48 by omega)] at ed
        refine SC.next (ih _ _ _ ?_ ?_ (Or.inl hI.1)) ?_ ?_ (fun j => ?_) (fun j => ff_D hltτ hk80 hv hD1 hE0 ?_ hS0 hL0)
        · rw [up2_n (by omega), up2_n (by omega)]
        · rw [up2_ne (by omega), up2_ne (by omega)]
        · rw [up2_n (by omega), up2_n (by omega)]
        · rw [up2_ne (by omega), up2_ne (by omega)]
        · rw [rd_key hlt hk80 r6 hc ed, if_pos (show (1 : Int) ≠ 0 by decide)]
        · split <;> omega
    · have hD0 : isD v key lets = 0 := by unfold isD; rw [if_neg (by omega)]
      exact SC.bad rfl rfl (fun j => by rw [rd_key hlt hk80 r6 hc (ky_bad c61 (by omega)), if_neg (show ¬ ((0 : Int) ≠ 0) by decide)]) (fun j => ff_0 hltτ hk80 hv hD0 hS0 hL0 hE0)
theorem scan_text {τ : Blk} {len n k : Nat} {π : Blk} {key lets : Int} (hτ : τ 0 8 = (len : Int)) (h80 : len ≤ 80) (hk : k < len) (h1 : π 0 1 = (len : Int)) (hc : π 1 k = τ 7 k) (ih : ∀ π1 key1 lets1, π1 0 1 = π 0 1 → π1 1 = π 1 → (IK (τ 7) len (k + 1) π1 key1 lets1 ∨ IT (τ 7) len (k + 1) π1 lets1) → SC τ len n (k + 1) π1 key1 lets1) (h : IT (τ 7) len k π lets) : SC τ len (n + 1) k π key lets := by
  obtain ⟨R, r2, r6, rk, r3, rl, rP, rE⟩ := h
  have hb : 0 ≤ π 4 R ∧ π 4 R ≤ 40 := by
    obtain ⟨d, -, -, -, -, -, -, d7, -⟩ := rP R (by omega)
    exact d7
  have hlt : (k : Int) < π 0 1 := by omega
  have hltτ : (k : Int) < τ 0 8 := by omega
  have hk80 : k < 80 := by omega
  obtain ⟨v, hv⟩ : ∃ v, τ 7 k = v := ⟨_, rfl⟩
  rw [hv] at hc
  have hD0 : isD v key lets = 0 := by unfold isD; rw [if_neg (by omega)]
  have hS0 : isS v key lets = 0 := by unfold isS; rw [if_neg (by omega)]
  by_cases c59 : v = 59
  · have hL0 : isL v lets = 0 := by unfold isL; rw [if_neg (by omega)]
    have hE1 : isE v lets = 1 := by unfold isE; rw [if_pos (by omega)]
    refine SC.next (ih _ _ _ ?_ ?_ (Or.inl (ik_end r2 rk r3 rP rE (hv.trans c59)))) ?_ ?_ (fun j => ?_) (fun j => ff_E hltτ hk80 hv hD0 hS0 hL0 hE1)
    · rw [up2_n (by omega), up2_n (by omega), up2_n (by omega)]
    · rw [up2_ne (by omega), up2_ne (by omega), up2_ne (by omega)]
    · rw [up2_n (by omega), up2_n (by omega), up2_n (by omega)]
    · rw [up2_ne (by omega), up2_ne (by omega), up2_ne (by omega)]
    · rw [rd_text hlt hk80 r6 hc (rt_end c59), if_pos (show (1 : Int) ≠ 0 by decide)]
  · have hE0 : isE v lets = 0 := by unfold isE; rw [if_neg (by omega)]
    by_cases cl : (97 ≤ v ∧ v ≤ 122) ∧ π 4 R < 40
    · have hL1 : isL v lets = 1 := by unfold isL; rw [if_pos (by omega)]
      refine SC.next (ih _ _ _ ?_ ?_ (Or.inr (it_letter r2 r6 rk r3 rl rP rE (by rw [hv]; exact cl) hk))) ?_ ?_ (fun j => ?_) (fun j => ff_L hltτ hk80 hv hD0 hS0 hL1 hE0 (by omega))
      · rw [up2_ne (by omega)]
      · rw [up2_ne (by omega)]
      · rw [up2_ne (by omega)]
      · rw [up2_ne (by omega)]
      · rw [rd_text hlt hk80 r6 hc (rt_ok r2 (by omega) cl hb.1), if_pos (show (1 : Int) ≠ 0 by decide)]
    · have hL0 : isL v lets = 0 := by unfold isL; rw [if_neg (by omega)]
      exact SC.bad rfl rfl (fun j => by rw [rd_text hlt hk80 r6 hc (rt_bad r2 (by omega) c59 cl), if_neg (show ¬ ((0 : Int) ≠ 0) by decide)]) (fun j => ff_0 hltτ hk80 hv hD0 hS0 hL0 hE0)
theorem scan {τ : Blk} {len : Nat} (hτ : τ 0 8 = (len : Int)) (h80 : len ≤ 80) : ∀ (n k : Nat) (π : Blk) (key lets : Int), k ≤ len → len - k < n → π 0 1 = (len : Int) → (∀ j, j < len → π 1 j = τ 7 j) → (IK (τ 7) len k π key lets ∨ IT (τ 7) len k π lets) → SC τ len n k π key lets := by
  intro n
  induction n with
  | zero => intro k π key lets _ h; omega
  | succ n ih =>
    intro k π key lets hk hn h1 hc h
    by_cases e : k = len
    · subst e
      exact ⟨π, ⟨rfl, rfl⟩, Or.inr ⟨key, lets, fun j => rd_end h1, fun j => ff_end hτ, h⟩⟩
    · have hlt : k < len := by omega
      have ih' : ∀ π1 key1 lets1, π1 0 1 = π 0 1 → π1 1 = π 1 → (IK (τ 7) len (k + 1) π1 key1 lets1 ∨ IT (τ 7) len (k + 1) π1 lets1) → SC τ len n (k + 1) π1 key1 lets1 := fun π1 key1 lets1 a b c => ih (k + 1) π1 key1 lets1 (by omega) (by omega) (a.trans h1) (by rw [b]; exact hc) c
      rcases h with h | h
      · exact scan_key hτ h80 hlt h1 (hc k hlt) ih' h
      · exact scan_text hτ h80 hlt h1 (hc k hlt) ih' h
/-- what reading gives: on both sides the same fault, or rows -/
def GP (c : Nat → Int) (len : Nat) (π : Blk) : Prop := ∃ R : Nat, R < 27 ∧ π 0 2 = ((R + 1 : Nat) : Int) ∧ (π 3 R).toNat + (π 4 R).toNat = len ∧ (∀ i, i < R + 1 → PR c len π i) ∧ ∀ i, i < R → EN c π i
theorem read_ok {τ π : Blk} {len : Nat} (hτ : τ 0 8 = (len : Int)) (h80 : len ≤ 80) (h1 : π 0 1 = (len : Int)) (hc : ∀ j, j < len → π 1 j = τ 7 j) : ∃ π' : Blk, (π' 0 1 = π 0 1 ∧ π' 1 = π 1) ∧ ((∃ v : Nat, f_X2_read π = some ((v : Int), π') ∧ f_X5_findFault τ = some (v : Int)) ∨ (f_X2_read π = some (-1, π') ∧ f_X5_findFault τ = some (-6) ∧ GP (τ 7) len π')) := by
  have e0 : ∀ s, kv (τ 7) s 0 = 0 := fun s => rfl
  have hI : IK (τ 7) len 0 (up2 (up2 (up2 (up2 π 0 2 0) 0 6 0) 0 7 0) 0 8 0) (-6) (-6) := by
    refine ⟨0, 0, by rw [up2_n (by omega), up2_n (by omega), up2_n (by omega), up2_s]; rfl, by rw [up2_n (by omega), up2_n (by omega), up2_s], by rw [up2_n (by omega), up2_s]; rfl, rfl, Nat.le_refl _, by rw [up2_s, e0], fun n hn => ?_, fun n hn => by omega, Or.inl ⟨rfl, rfl⟩, rfl, fun i hi => by omega, fun i hi => by omega⟩
    rw [show n = 0 by omega, e0]
    omega
  obtain ⟨π', ⟨a1, a2⟩, b⟩ := scan hτ h80 fu 0 _ (-6) (-6) (by omega) (fu_lt (by omega)) (by rw [up2_n (by omega), up2_n (by omega), up2_n (by omega), up2_n (by omega)]; exact h1) (by rw [up2_ne (by omega), up2_ne (by omega), up2_ne (by omega), up2_ne (by omega)]; exact hc) (Or.inl hI)
  rw [up2_n (by omega), up2_n (by omega), up2_n (by omega), up2_n (by omega)] at a1
  rw [up2_ne (by omega), up2_ne (by omega), up2_ne (by omega), up2_ne (by omega)] at a2
  refine ⟨π', ⟨a1, a2⟩, ?_⟩
  unfold f_X2_read f_X5_findFault
  rw [pf_t, x2_awaitKey, bs, jp_t, jp_t]
  rcases b with ⟨v, b1, b2⟩ | ⟨key', lets', b1, b2, b3⟩
  · exact Or.inl ⟨v, b1 _, b2 _⟩
  · rcases b3 with ⟨R, d, r2, r6, r7, rk, r3, r8, rv, rn, rd, rl, rP, rE⟩ | ⟨R, r2, r6, rk, r3, rl, rP, rE⟩
    · refine Or.inl ⟨len, (b1 _).trans ?_, (b2 _).trans ?_⟩
      · rw [if_pos r6, a1, h1]
      · rw [if_neg (show ¬ lets' ≠ -6 by omega), hτ]
    · have hb : 0 ≤ π' 4 R := by
        obtain ⟨d, -, -, -, -, -, -, d7, -⟩ := rP R (by omega)
        exact d7.1
      refine Or.inr ⟨(b1 _).trans ?_, (b2 _).trans ?_, R, by omega, r2, rk.symm, rP, rE⟩
      · rw [if_neg (show ¬ π' 0 6 = 0 by omega)]
      · rw [if_pos (show lets' ≠ -6 by omega)]
