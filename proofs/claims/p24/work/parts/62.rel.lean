/-! PURE: the relation of a Book and the model's ints; layRow beside writes -/
def LIN (w : Nat → Prop) (β : Blk) (s : Nat → Int) (x : Nat) : Prop := pt s x 0 = 1 → β 8 x = pt s x 2 ∧ (0 ≤ pt s x 2 ∧ pt s x 2 ≤ 40) ∧ LTR s x ∧ (w x → pt s x 3 = β 9 x ∧ pt s x 4 = β 10 x)
def SET (β : Blk) (s : Nat → Int) : Prop := (β 0 0 = s 0 ∧ 0 ≤ s 0 ∧ s 0 ≤ 16) ∧ (β 0 1 = s 1 ∧ 1 ≤ s 1 ∧ s 1 ≤ 12) ∧ β 0 2 = s 2
def RBc (w : Nat → Prop) (β : Blk) (s : Nat → Int) : Prop :=
  SET β s ∧ RW β s ∧ PG β s (β 7) ∧ FI s w (β 10) (β 9) (β 11) (PP β) (fun _ => False) ∧ (∀ x, x < 30 → LIN w β s x) ∧ (∀ x, x < 30 → pt s x 0 ≠ 1 → pt s x 2 = 0) ∧ ∀ x, x < 30 → w x → pt s x 0 = 1
def isr (s : Nat → Int) : Nat → Prop := fun x => pt s x 0 = 1
theorem RW.congr {β β' : Blk} {s s' : Nat → Int} (h : RW β s) (h6 : ∀ k, k < 100 → β' 6 k = β 6 k) (h7 : ∀ x, x < 30 → β' 7 x = β 7 x) (h2 : s' 2 = s 2) (h0 : ∀ x, x < 30 → pt s' x 0 = pt s x 0 ∧ pt s' x 1 = pt s x 1) : RW β' s' := by
  refine ⟨fun x hx => ?_, fun k hk => ?_, ?_⟩
  · rw [(h0 x hx).1, (h0 x hx).2, h7 x hx]
    rcases h.1 x hx with h1 | h1
    · exact Or.inl ⟨h1.1, h1.2.1, h1.2.2.1, h1.2.2.2.1, by rw [h6 _ (by omega)]; exact h1.2.2.2.2⟩
    · exact Or.inr h1
  · rw [h6 k hk]
    rcases h.2.1 k hk with h1 | ⟨x, h1, h3, h4, h5⟩
    · exact Or.inl h1
    · exact Or.inr ⟨x, h1, h3, by rw [(h0 x h1).1]; exact h4, by rw [(h0 x h1).2]; exact h5⟩
  · rw [h2, h.2.2]
    exact (sumN_congr (fun x hx => (h0 x hx).1)).symm
theorem LTR.congr {s s' : Nat → Int} {x : Nat} (h : LTR s x) (h0 : ∀ k, k < 12 → pt s' x k = pt s x k) : LTR s' x := fun m hm => by rw [h0 _ (by omega)]; exact h m hm
theorem RBc.congrS {w : Nat → Prop} {β : Blk} {s s' : Nat → Int} (h : RBc w β s) (hs : ∀ j, j < 763 → s' j = s j) : RBc w β s' := by
  obtain ⟨⟨h1, h2, h3⟩, h4, h5, h6, h7, h8, h9⟩ := h
  have hp : ∀ x k, x < 30 → k < 12 → pt s' x k = pt s x k := fun x k hx hk => hs _ (by omega)
  refine ⟨⟨by rw [hs 0 (by omega)]; exact h1, by rw [hs 1 (by omega)]; exact h2, by rw [hs 2 (by omega)]; exact h3⟩, h4.congr (fun _ _ => rfl) (fun _ _ => rfl) (hs 2 (by omega)) (fun x hx => ⟨hp x 0 hx (by omega), hp x 1 hx (by omega)⟩), h5.congrS (fun q hq => hs _ (by omega)), h6.congr (fun q hq => hs _ (by omega)) (fun _ _ => Iff.rfl) (fun _ _ _ => ⟨rfl, rfl, rfl, fun _ _ => rfl⟩), fun x hx hi => ?_, fun x hx hi => ?_, fun x hx hw => ?_⟩
  · rw [hp x 0 hx (by omega)] at hi
    have h10 := h7 x hx hi
    rw [hp x 2 hx (by omega), hp x 3 hx (by omega), hp x 4 hx (by omega)]
    exact ⟨h10.1, h10.2.1, h10.2.2.1.congr (fun k hk => hp x k hx hk), h10.2.2.2⟩
  · rw [hp x 0 hx (by omega)] at hi
    rw [hp x 2 hx (by omega)]
    exact h8 x hx hi
  · rw [hp x 0 hx (by omega)]
    exact h9 x hx hw
theorem RBc.congrW {w w' : Nat → Prop} {β : Blk} {s : Nat → Int} (h : RBc w β s) (hw : ∀ x, x < 30 → (w' x ↔ w x)) : RBc w' β s := by
  obtain ⟨h1, h4, h5, h6, h7, h8, h9⟩ := h
  refine ⟨h1, h4, h5, h6.congr (fun _ _ => rfl) hw (fun _ _ _ => ⟨rfl, rfl, rfl, fun _ _ => rfl⟩), fun x hx hi => ?_, h8, fun x hx hi => h9 x hx ((hw x hx).mp hi)⟩
  have h10 := h7 x hx hi
  exact ⟨h10.1, h10.2.1, h10.2.2.1, fun hz => h10.2.2.2 ((hw x hx).mp hz)⟩
theorem rbc_of_wok {w' : Nat → Prop} {r : Nat} {β σ β' τ' : Blk} (hr : r < 30) (h : WOK w' r β σ β' τ') (hS : SET β (σ 1)) (hR : RW β (σ 1)) (hw' : ∀ x, x < 30 → w' x → pt (σ 1) x 0 = 1) (h8 : β 8 r = σ 0 10) (hl : 0 ≤ σ 0 10 ∧ σ 0 10 ≤ 40) (hx : ∀ x, x < 30 → x ≠ r → LIN w' β (σ 1) x) (hz : ∀ x, x < 30 → pt (σ 1) x 0 ≠ 1 → pt (σ 1) x 2 = 0) (hi : pt (σ 1) r 0 = 1) : RBc w' β' (τ' 1) := by
  obtain ⟨a1, a2, a3, a4, a5, a6, a7, a8, a9, a10⟩ := h
  have hp : ∀ x k, x < 30 → k < 12 → (x ≠ r ∨ k < 2) → pt (τ' 1) x k = pt (σ 1) x k := fun x k hx hk h => a5 _ (by omega) (by unfold UT; omega) (by omega) (by omega)
  refine ⟨⟨?_, ?_, ?_⟩, hR.congr (fun k hk => by rw [a1 6 (by omega)]) (fun x hx => by rw [a1 7 (by omega)]) (a5 2 (by omega) (by unfold UT; omega) (by omega) (by omega)) (fun x hx => ⟨hp x 0 hx (by omega) (by omega), hp x 1 hx (by omega) (by omega)⟩), ?_, a8, fun x hx2 hi2 => ?_, fun x hx2 hi2 => ?_, fun x hx2 hw => ?_⟩
  · rw [a1 0 (by omega), a5 0 (by omega) (by unfold UT; omega) (by omega) (by omega)]; exact hS.1
  · rw [a1 0 (by omega), a5 1 (by omega) (by unfold UT; omega) (by omega) (by omega)]; exact hS.2.1
  · rw [a1 0 (by omega), a5 2 (by omega) (by unfold UT; omega) (by omega) (by omega)]; exact hS.2.2
  · rw [a1 7 (by omega)]; exact a7
  · rw [a1 8 (by omega)]
    by_cases e : x = r
    · subst e
      rw [a6.1]
      exact ⟨h8, hl, a6.2.1, fun _ => ⟨a9, a10⟩⟩
    · have h1 := hx x hx2 e (by rw [← hp x 0 hx2 (by omega) (Or.inl e)]; exact hi2)
      rw [hp x 2 hx2 (by omega) (Or.inl e), hp x 3 hx2 (by omega) (Or.inl e), hp x 4 hx2 (by omega) (Or.inl e), (a2 x e).1, (a2 x e).2.1]
      exact ⟨h1.1, h1.2.1, h1.2.2.1.congr (fun k hk => hp x k hx2 hk (Or.inl e)), h1.2.2.2⟩
  · have e : x ≠ r := fun e => hi2 (by rw [e, hp r 0 hr (by omega) (by omega)]; exact hi)
    rw [hp x 2 hx2 (by omega) (Or.inl e)]
    exact hz x hx2 (by rw [← hp x 0 hx2 (by omega) (Or.inl e)]; exact hi2)
  · rw [hp x 0 hx2 (by omega) (by omega)]
    exact hw' x hx2 hw
theorem x5_moves {σ : Blk} {i1 n1 i3 n3 : Nat} {a2 a4 : Int} (p2 p4 : Nat) (h2 : a2 = (p2 : Int)) (h4 : a4 = (p4 : Int)) (hne : i1 ≠ i3) (hn1 : p2 + 763 ≤ n1) (hn3 : p4 + 763 ≤ n3) : ∃ σ', f_X5_moves σ i1 n1 a2 i3 n3 a4 = some σ' ∧ (∀ c, c ≠ i3 → σ' c = σ c) ∧ (∀ j, j < 763 → σ' i3 (p4 + j) = σ i1 (p2 + j)) ∧ ∀ j, j < p4 ∨ p4 + 763 ≤ j → σ' i3 j = σ i3 j := by
  subst h2 h4
  have key := loopSt (F := fun n (x : Nat) (s : Blk) => f_X5_moves_L3 i1 n1 p2 i3 n3 p4 n (x : Int) s) (P := fun x s => (∀ c, c ≠ i3 → s c = σ c) ∧ (∀ j, j < x → s i3 (p4 + j) = σ i1 (p2 + j)) ∧ ∀ j, j < p4 ∨ p4 + 763 ≤ j → s i3 j = σ i3 j) (Q := fun o => ∃ σ', o = some σ' ∧ (∀ c, c ≠ i3 → σ' c = σ c) ∧ (∀ j, j < 763 → σ' i3 (p4 + j) = σ i1 (p2 + j)) ∧ ∀ j, j < p4 ∨ p4 + 763 ≤ j → σ' i3 j = σ i3 j) 763 (fun n x s hx hp => ?_) (fun n s hp => ?_) fu 0 σ (by omega) (fu_lt (by omega)) ⟨fun _ _ => rfl, fun j hj => by omega, fun _ _ => rfl⟩
  · exact key
  · obtain ⟨a1, a2, a3⟩ := hp
    show ∃ s', f_X5_moves_L3 i1 n1 p2 i3 n3 p4 (n + 1) (x : Int) s = f_X5_moves_L3 i1 n1 p2 i3 n3 p4 n ((x + 1 : Nat) : Int) s' ∧ _
    rw [f_X5_moves_L3, if_neg (by omega), ld_t (p2 + x) (by omega) (by omega), bs, sw_t (p4 + x) (by omega) (by omega), bs, ck_t (by omega), bs]
    refine ⟨_, rfl, fun c hc => by rw [up2_ne hc]; exact a1 c hc, fun j hj => ?_, fun j hj => by rw [up2_n (by omega)]; exact a3 j hj⟩
    by_cases e : j = x
    · rw [e, up2_s, a1 i1 hne]
    · rw [up2_n (by omega)]
      exact a2 j (by omega)
  · obtain ⟨a1, a2, a3⟩ := hp
    refine ⟨s, ?_, a1, a2, a3⟩
    show f_X5_moves_L3 _ _ _ _ _ _ _ _ _ = _
    rw [f_X5_moves_L3, if_pos (by omega)]
theorem FI.rowof {s at_ ho np : Nat → Int} {w : Nat → Prop} {pp : Nat → Nat → Int} (h : FI s w at_ ho np pp (fun _ => False)) {q : Nat} (hq : q < 400) (h0 : s (363 + q) ≠ 0) : ∃ r, r < 30 ∧ w r ∧ rwo (s (363 + q)) = r := by
  rcases h.2 q hq h0 with ⟨r, hr, hw, hi⟩ | hE
  · exact ⟨r, hr, hw, hi.row hr (h.own hr hw).2.2.2.2.1.2⟩
  · exact hE.elim
