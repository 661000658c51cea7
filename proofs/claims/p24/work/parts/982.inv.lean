/-! PURE: what holds between the law's steps; set *)  -/
def INVc (T : Blk) (s : Nat → Int) : Prop := (∃ n, TT T 0 2 s n) ∧ LRow T 1 s ∧ (T 0 0 = s 0 ∧ T 0 1 = s 1 ∧ T 0 2 = s 2) ∧ (∀ x, x < 6 → pt s x 0 = 1 → LEx T x (lt s x) (pt s x 2).toNat) ∧ (∀ x, x < 6 → Wg cl s x ≤ 33 ∧ Wg one s x ≤ 8) ∧ 4 ≤ s 1
def INV (σ : Blk) (B : Nat → Blk) (nb : Nat) (T τ : Blk) : Prop := Rel σ (vb B) nb τ ∧ INVc T (τ 1)
theorem INV.sm {σ : Blk} {B : Nat → Blk} {nb : Nat} {T τ : Blk} (h : INV σ B nb T τ) : ∃ q n, SM σ B nb q n T (τ 1) := by
  obtain ⟨hR, ⟨n, hT⟩, hL, hc, hE, -⟩ := h
  obtain ⟨q, t, e1, e2, e3, -⟩ := hR.1.q
  have hB := hR.2.1
  rw [e1, Int.toNat_natCast] at hB
  exact ⟨q, n, ⟨e1, e3⟩, hB, hT, hL, hc, hE⟩
theorem to_g {f g : Option (Int × Up)} (hb : Le RT f g) {v : Int} {σ' : Blk} {B' : Nat → Blk} {nb' : Nat} (hf : f = some (v, σ', B', nb')) : ∃ B'', g = some (v, σ', B'', nb') ∧ vb B'' = B' := by
  obtain ⟨⟨v2, σ2, B2, n2⟩, h1, h2⟩ := hb _ hf
  obtain ⟨e1, e2, e3, e4⟩ := h2
  dsimp only at e1 e2 e3 e4
  subst e1 e2 e4
  exact ⟨B2, h1, e3⟩
/-- a row of no thing weighs nothing -/
theorem w_no {s at_ ho np : Nat → Int} {w : Nat → Prop} {pp : Nat → Nat → Int} {g : Int → Int} (g0 : g 0 = 0) (h : FI s w at_ ho np pp (fun _ => False)) {r : Nat} (hr : ¬ (r < 30 ∧ w r)) : Wg g s r = 0 := Wg_none g0 (fun p hp h0 hz => by
  rcases h.2 p hp h0 with ⟨x, x1, x2, x3⟩ | z
  · have h4 := x3.row x1 (h.own x1 x2).2.2.2.2.1.2
    have h5 : x = r := by omega
    subst h5
    exact hr ⟨x1, x2⟩
  · exact z)
theorem LRow.congr {T T' : Blk} {ir ir' : Nat} {s s' : Nat → Int} (h : LRow T ir s) (hT : ∀ j, j < 28 → T' ir' j = T ir j) (hs : ∀ x k, x < 30 → k < 5 → pt s' x k = pt s x k) : LRow T' ir' s' := by
  refine ⟨fun x hx => ?_, fun x h1 h2 => by rw [hs x 0 h2 (by omega)]; exact h.2 x h1 h2⟩
  rw [hT _ (by omega), hT _ (by omega), hT _ (by omega), hT _ (by omega), hs x 0 (by omega) (by omega), hs x 1 (by omega) (by omega), hs x 2 (by omega) (by omega), hs x 3 (by omega) (by omega), hs x 4 (by omega) (by omega)]
  exact h.1 x hx
theorem INVc.sc {T T' : Blk} {s s' : Nat → Int} (h : INVc T s) (hs : ∀ j, 3 ≤ j → j < 763 → s' j = s j) (hT : ∀ c, c ≠ 0 → T' c = T c) (h3 : T' 0 3 = T 0 3) (he : T' 0 0 = s' 0 ∧ T' 0 1 = s' 1 ∧ T' 0 2 = s' 2) (h1 : 4 ≤ s' 1) : INVc T' s' := by
  obtain ⟨⟨n, a1⟩, a2, a3, a4, a5, a6⟩ := h
  have hp : ∀ x k, x < 30 → k < 12 → pt s' x k = pt s x k := fun x k hx hk => hs _ (by omega) (by omega)
  refine ⟨⟨n, a1.congr h3 (fun k _ => by rw [hT 2 (by omega)]) (fun p hp => hs _ (by omega) (by omega))⟩, a2.congr (fun j _ => by rw [hT 1 (by omega)]) (fun x k hx hk => hp x k hx (by omega)), he, fun x hx hi => ?_, fun x hx => ?_, h1⟩
  · rw [hp x 0 (by omega) (by omega)] at hi
    have hl := (a2.live (by omega) hi).2.2.2.1
    rw [hp x 2 (by omega) (by omega)]
    exact (a4 x hx hi).congr (fun j _ => LV_congr (hT 6 (by omega))) (fun k hk => lt_c (fun m hm => hp x _ (by omega) (by omega)) (by omega))
  · rw [Wg_congr (fun p hp => hs _ (by omega) (by omega)), Wg_congr (fun p hp => hs _ (by omega) (by omega))]
    exact a5 x hx
theorem st_set {σ T τ : Blk} {B : Nat → Blk} {nb : Nat} (h : INV σ B nb T τ) {a v : Int} (ha : (a = 0 ∧ 0 ≤ v ∧ v ≤ 16) ∨ (a = 1 ∧ 4 ≤ v ∧ v ≤ 12)) (j : Blk → (Nat → Blk) → Nat → Blk → Option Int) : ∃ σ' B' nb' T' τ', (bd4 (g_X4_set σ B nb a v) fun r69 σ70 B71 N72 => Option.bind (ld T 0 4 a) fun v73 => if r69 = v73 then Option.bind (sw T 0 4 a v) fun τ74 => j σ70 B71 N72 τ74 else some 0) = j σ' B' nb' T' ∧ INV σ' B' nb' T' τ' := by
  obtain ⟨hR, hI⟩ := id h
  obtain ⟨w, σ', B', nb', τ', s1, s2, s3⟩ := set_ok hR a v
  obtain ⟨B'', g1, g2⟩ := to_g b_set s1
  obtain ⟨τ1, r1, r2, r3, -⟩ := x5_record (τ := τ) (c := 1) (Or.inl rfl) hR.2.2.1.2.1
  have e1 : τ1 1 = τ 1 := r2 1 (by omega) (by omega)
  obtain ⟨k, hk, hk2⟩ : ∃ k : Nat, a = (k : Int) ∧ k < 2 := by
    rcases ha with ⟨z, -⟩ | ⟨z, -⟩
    · exact ⟨0, z, by omega⟩
    · exact ⟨1, z, by omega⟩
  have hset : f_X5_set τ a v = some (τ 1 k, up2 τ1 1 k v) := by
    unfold f_X5_set f_X5_isValue
    rcases ha with ⟨z, z1, z2⟩ | ⟨z, z1, z2⟩
    · rw [if_neg (show ¬ a ≠ 0 by omega), x5_within, if_neg (by omega), if_neg (by omega), bs, ckB_t (by omega), bs, bs, if_pos (by decide), r1, bs, ld_t k hk (by omega), bs, sw_t k hk (by omega), bs, e1]
    · rw [if_pos (show a ≠ 0 by omega), if_neg (show ¬ a ≠ 1 by omega), x5_within, if_neg (by omega), if_neg (by omega), bs, if_neg (by decide), bs, if_pos (by decide), r1, bs, ld_t k hk (by omega), bs, sw_t k hk (by omega), bs, e1]
  rw [hset] at s2
  injection s2 with s2
  injection s2 with s2a s2b
  obtain ⟨c0, c1, c2⟩ := hI.2.2.1
  have hTk : T 0 k = τ 1 k := by
    rcases (show k = 0 ∨ k = 1 by omega) with rfl | rfl
    · exact c0
    · exact c1
  rw [g1, bd4_t, ld_t k hk (by omega), bs, hTk, if_pos s2a.symm, sw_t k hk (by omega), bs]
  refine ⟨_, _, _, _, τ', rfl, by rw [g2]; exact s3, ?_⟩
  rw [← s2b, up2_row, e1]
  refine hI.sc (fun j h1 h2 => us_n (by omega)) (fun c hc => up2_ne hc) (up2_n (by omega)) ?_ ?_
  · rcases (show k = 0 ∨ k = 1 by omega) with rfl | rfl
    · exact ⟨by rw [up2_s, us_s], by rw [up2_n (by omega), us_n (by omega)]; exact c1, by rw [up2_n (by omega), us_n (by omega)]; exact c2⟩
    · exact ⟨by rw [up2_n (by omega), us_n (by omega)]; exact c0, by rw [up2_s, us_s], by rw [up2_n (by omega), us_n (by omega)]; exact c2⟩
  · rcases (show k = 0 ∨ k = 1 by omega) with rfl | rfl
    · rw [us_n (by omega)]
      exact hI.2.2.2.2.2
    · rw [us_s]
      omega
