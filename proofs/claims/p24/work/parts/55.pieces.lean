/-! PURE: the pieces of a row: found, dropped, counted -/
theorem loopSt {S γ : Type} {F : Nat → Nat → S → γ} {P : Nat → S → Prop} {Q : γ → Prop} (e : Nat) (hs : ∀ n x s, x < e → P x s → ∃ s', F (n + 1) x s = F n (x + 1) s' ∧ P (x + 1) s') (he : ∀ n s, P e s → Q (F (n + 1) e s)) : ∀ (n x : Nat) (s : S), x ≤ e → e - x < n → P x s → Q (F n x s) := by
  intro n
  induction n with
  | zero => intro x s _ h; omega
  | succ n ih =>
    intro x s hx hn hp
    by_cases h : x = e
    · subst h; exact he n s hp
    · obtain ⟨s', e1, h1⟩ := hs n x s (by omega) hp
      rw [e1]
      exact ih (x + 1) s' (by omega) (by omega) h1
theorem sumN_const {c : Int} : ∀ n : Nat, sumN (fun _ => c) n = n * c
  | 0 => by simp [sumN]
  | n + 1 => by
    show sumN (fun _ => c) n + c = _
    rw [sumN_const n, Int.natCast_add, Int.add_mul]
    simp
/-- what finding the pieces leaves alone -/
def Fz (τ τ' : Blk) : Prop := (∀ c, c ≠ 0 → c ≠ 9 → τ' c = τ c) ∧ ∀ j, j ≠ 12 → τ' 0 j = τ 0 j
theorem Fz.rf {τ : Blk} : Fz τ τ := ⟨fun _ _ _ => rfl, fun _ _ => rfl⟩
theorem Fz.tr {τ τ' τ'' : Blk} (h : Fz τ τ') (h2 : Fz τ' τ'') : Fz τ τ'' := ⟨fun c a b => (h2.1 c a b).trans (h.1 c a b), fun j hj => (h2.2 j hj).trans (h.2 j hj)⟩
theorem Fz.x {τ τ' : Blk} (h : Fz τ τ') : Fx τ τ' := ⟨fun c a b d e => h.1 c a e, h.2⟩
theorem FI.find {s at_ ho np : Nat → Int} {w : Nat → Prop} {pp : Nat → Nat → Int} (h : FI s w at_ ho np pp (fun _ => False)) {r q : Nat} (hq : q < 400) (hr : r < 30) (hk : kd (s (363 + q)) = 2) (hrw : rwo (s (363 + q)) = r) : ∃ i : Nat, (i : Int) < np r ∧ nro (s (363 + q)) = i ∧ pp r i = q ∧ w r := by
  have h0 : s (363 + q) ≠ 0 := fun z => by rw [z] at hk; exact absurd hk (by decide)
  rcases h.2 q hq h0 with ⟨r', hr', hw', hi⟩ | hE
  · have hn := (h.own hr' hw').2.2.2.2.1
    have e := hi.row hr' hn.2
    have e2 : r' = r := by omega
    subst e2
    rcases hi with ⟨l, h1, h2, h3, -⟩ | ⟨h3, -⟩ | ⟨i, l, b0, h1, h2, h3, h4⟩
    · rw [h3, (mk_dec (by omega) (by omega) (by omega) (by omega)).1] at hk; omega
    · rw [h3, (mk_dec (by omega) (by omega) (by omega) (by omega)).1] at hk; omega
    · refine ⟨i, b0, ?_, h4, hw'⟩
      rw [h3, (mk_dec (by omega) (by omega) (by omega) (by omega)).2.2.1]
  · exact hE.elim
theorem x5_findPieces {σ : Blk} {at_ ho np : Nat → Int} {w : Nat → Prop} {pp : Nat → Nat → Int} (hT : TK (σ 1)) (h : FI (σ 1) w at_ ho np pp (fun _ => False)) {r : Nat} (hr : r < 30) (hw : w r) : ∃ σ', f_X5_findPieces σ r = some σ' ∧ Fz σ σ' ∧ σ' 0 12 = np r ∧ ∀ i : Nat, (i : Int) < np r → σ' 9 i = pp r i := by
  have hn := (h.own hr hw).2.2.2.2.1
  have hpp : ∀ i : Nat, (i : Int) < np r → 0 ≤ pp r i ∧ pp r i < 400 ∧ kd (σ 1 (363 + (pp r i).toNat)) = 2 ∧ rwo (σ 1 (363 + (pp r i).toNat)) = r ∧ nro (σ 1 (363 + (pp r i).toNat)) = i := fun i hi => by
    obtain ⟨h1, l, h2, h3, h4⟩ := (h.own hr hw).2.2.2.2.2 i hi
    have h5 := mk_dec (k := 2) (r := r) (n := i) (l := l) (by omega) (by omega) (by omega) (by omega)
    rw [h4]
    exact ⟨h1.1, h1.2, h5.1, h5.2.1, h5.2.2.1⟩
  have key := loopSt (F := fun n (x : Nat) (s : Blk) => f_X5_findPieces_L7 r n (x : Int) s) (P := fun x s => Fz σ s ∧ s 0 12 = sumN (fun i => if pp r i < x then 1 else 0) (np r).toNat ∧ ∀ i : Nat, (i : Int) < np r → pp r i < x → s 9 i = pp r i) (Q := fun o => ∃ σ', o = some σ' ∧ Fz σ σ' ∧ σ' 0 12 = np r ∧ ∀ i : Nat, (i : Int) < np r → σ' 9 i = pp r i) 400 (fun n x s hx hp => ?_) (fun n s hp => ?_) fu 0 (up2 σ 0 12 0) (by omega) (fu_lt (by omega)) ⟨⟨fun c a b => up2_ne a, fun j hj => up2_n (by omega)⟩, ?_, fun i hi h1 => ?_⟩
  · exact key
  · obtain ⟨h1, h2, h3⟩ := hp
    have e1 : s 1 = σ 1 := h1.1 1 (by omega) (by omega)
    show ∃ s', f_X5_findPieces_L7 r (n + 1) (x : Int) s = f_X5_findPieces_L7 r n ((x + 1 : Nat) : Int) s' ∧ _
    rw [f_X5_findPieces_L7, if_neg (by omega), ld_t (363 + x) (by omega) (by omega), bs, e1, x5_kind (hT x hx), bs]
    dsimp only [jp]
    by_cases ek : kd (σ 1 (363 + x)) ≠ 2 ∨ rwo (σ 1 (363 + x)) ≠ r
    · refine ⟨s, ?_, h1, ?_, ?_⟩
      · by_cases e2 : kd (σ 1 (363 + x)) ≠ 2
        · rw [if_pos e2, ck_t (by omega), bs]; rfl
        · rw [if_neg e2, x5_row (hT x hx), bs, if_pos (by omega), ck_t (by omega), bs]; rfl
      · rw [h2]
        refine sumN_congr (fun i hi => ?_)
        have h4 := hpp i (by omega)
        by_cases e3 : pp r i < x
        · rw [if_pos e3, if_pos (by omega)]
        · rw [if_neg e3, if_neg (fun z => ?_)]
          have e4 : x = (pp r i).toNat := by omega
          rw [e4] at ek
          omega
      · intro i hi h4
        have h5 := hpp i (by omega)
        refine h3 i hi ?_
        rcases Int.lt_or_le (pp r i) x with h6 | h6
        · exact h6
        · exfalso
          have e4 : x = (pp r i).toNat := by omega
          rw [e4] at ek
          omega
    · obtain ⟨i, i1, i2, i3, -⟩ := h.find hx hr (by omega) (by omega)
      have hlt : ∀ j : Nat, (j : Int) < np r → pp r j < ((x + 1 : Nat) : Int) → j ≠ i → pp r j < x := fun j hj h6 hne => by
        have h5 := hpp j hj
        rcases Int.lt_or_le (pp r j) x with h7 | h7
        · exact h7
        · exfalso
          have e4 : x = (pp r j).toNat := by omega
          rw [← e4] at h5
          omega
      have hc := sumN_one (f := fun j => if pp r j < x then 1 else 0) (g := fun j => if pp r j < ((x + 1 : Nat) : Int) then 1 else 0) (n := (np r).toNat) (k := i) (by omega) (fun j hj hne => by
        show (if pp r j < ((x + 1 : Nat) : Int) then (1 : Int) else 0) = if pp r j < x then 1 else 0
        by_cases e5 : pp r j < x
        · rw [if_pos e5, if_pos (by omega)]
        · rw [if_neg e5, if_neg (fun z => e5 (hlt j (by omega) z hne))])
      have hr1 := sumN_nonneg (f := fun j => if pp r j < (x : Int) then (1 : Int) else 0) (n := (np r).toNat) (fun j _ => by
        show (0 : Int) ≤ if pp r j < (x : Int) then 1 else 0
        split <;> omega)
      have hr2 := sumN_le (f := fun j => if pp r j < (x : Int) then (1 : Int) else 0) (n := (np r).toNat) (b := 1) (fun j _ => by
        show (if pp r j < (x : Int) then (1 : Int) else 0) ≤ 1
        split <;> omega)
      refine ⟨up2 (up2 s 9 i x) 0 12 (s 0 12 + 1), ?_, ?_, ?_, ?_⟩
      · rw [if_neg (by omega), x5_row (hT x hx), bs, if_neg (by omega), x5_number (hT x hx), bs, sw_t i i2 (by omega), bs]
        rw [show up2 s 9 i x 0 12 = s 0 12 from up2_n (by omega), ck_t (by omega), bs, ck_t (by omega)]
        rfl
      · exact h1.tr ⟨fun c a b => by rw [up2_ne a, up2_ne b], fun j hj => by rw [up2_n (by omega), up2_n (by omega)]⟩
      · rw [up2_s, hc, h2]
        simp only [i3]
        rw [if_neg (by omega), if_pos (by omega)]
        omega
      · intro j hj h4
        rw [up2_n (by omega)]
        by_cases e5 : j = i
        · rw [e5, up2_s]; omega
        · rw [up2_n (by omega)]
          exact h3 j hj (hlt j hj h4 e5)
  · obtain ⟨h1, h2, h3⟩ := hp
    refine ⟨s, ?_, h1, ?_, fun i hi => h3 i hi (hpp i hi).2.1⟩
    · show f_X5_findPieces_L7 _ _ _ _ = _
      rw [f_X5_findPieces_L7, if_pos (by omega)]
    · rw [h2]
      refine (sumN_congr (g := fun _ => 1) (fun i hi => if_pos ?_)).trans ?_
      · have := hpp i (by omega)
        omega
      · rw [sumN_const]; omega
  · show up2 σ 0 12 0 0 12 = _
    rw [up2_s, sumN_congr (g := fun _ => 0) (fun i hi => if_neg (by have := hpp i (by omega); omega)), sumN_const]
    omega
  · have := hpp i hi
    omega
theorem x5_dropPieces {σ : Blk} {at_ ho np : Nat → Int} {w : Nat → Prop} {pp : Nat → Nat → Int} (hT : TK (σ 1)) (h : FI (σ 1) w at_ ho np pp (fun _ => False)) {r : Nat} (hr : r < 30) (hw : w r) : ∃ σ', f_X5_dropPieces σ r = some σ' ∧ Fx σ σ' ∧ σ' 1 = dropS (σ 1) (pp r) (np r).toNat ∧ σ' 3 = σ 3 := by
  obtain ⟨σ1, f1, f2, f3, f4⟩ := x5_findPieces hT h hr hw
  have hn := (h.own hr hw).2.2.2.2.1
  have h8 := (h.own hr hw).2.2.2.2.2
  unfold f_X5_dropPieces
  rw [f1, bs]
  have key := loopSt (F := fun n (x : Nat) (s : Blk) => f_X5_dropPieces_L7 n (x : Int) s) (P := fun x s => (∀ c, c ≠ 1 → s c = σ1 c) ∧ s 1 = dropS (σ 1) (pp r) x) (Q := fun o => ∃ σ', o = some σ' ∧ Fx σ σ' ∧ σ' 1 = dropS (σ 1) (pp r) (np r).toNat ∧ σ' 3 = σ 3) (np r).toNat (fun n x s hx hp => ?_) (fun n s hp => ?_) fu 0 σ1 (by omega) (fu_lt (by omega)) ⟨fun _ _ => rfl, f2.1 1 (by omega) (by omega)⟩
  · exact key
  · obtain ⟨h1, h2⟩ := hp
    have h3 := h8 x (by omega)
    show ∃ s', f_X5_dropPieces_L7 (n + 1) (x : Int) s = f_X5_dropPieces_L7 n ((x + 1 : Nat) : Int) s' ∧ _
    rw [f_X5_dropPieces_L7, h1 0 (by omega), f3, if_neg (by omega), ld_t x rfl (by omega), bs, h1 9 (by omega), f4 x (by omega), sw_t (363 + (pp r x).toNat) (by omega) (by omega), bs, ck_t (by omega), bs]
    refine ⟨_, rfl, fun c hc => by rw [up2_ne hc]; exact h1 c hc, ?_⟩
    rw [up2_row, h2]
    rfl
  · obtain ⟨h1, h2⟩ := hp
    refine ⟨s, ?_, ⟨fun c a b d e => by rw [h1 c b]; exact f2.1 c a e, fun j hj => by rw [h1 0 (by omega)]; exact f2.2 j hj⟩, h2, by rw [h1 3 (by omega)]; exact f2.1 3 (by omega) (by omega)⟩
    show f_X5_dropPieces_L7 _ _ _ = _
    rw [f_X5_dropPieces_L7, h1 0 (by omega), f3, if_pos (by omega)]
theorem x0_lift {β : Blk} {s at_ ho ow : Nat → Int} {w : Nat → Prop} (hP : PG β s ow) (h : FI s w at_ ho (β 11) (fun x i => β (13 + x) i) (fun _ => False)) {r : Nat} (hr : r < 30) (hw : w r) : ∃ β', f_X0_liftPieces β r = some (up2 β' 11 r 0) ∧ AgB β β' ∧ PG β' (dropS s (fun i => β (13 + r) i) (β 11 r).toNat) ow := by
  have hn := (h.own hr hw).2.2.2.2.1
  have h8 := (h.own hr hw).2.2.2.2.2
  have key := loopSt (F := fun n (x : Nat) (b : Blk) => f_X0_liftPieces_L2 r (fun σ2 => Option.bind (sw σ2 11 30 r 0) fun σ3 => some σ3) n (x : Int) b) (P := fun x b => AgB β b ∧ PG b (dropS s (fun i => β (13 + r) i) x) ow) (Q := fun o => ∃ β', o = some (up2 β' 11 r 0) ∧ AgB β β' ∧ PG β' (dropS s (fun i => β (13 + r) i) (β 11 r).toNat) ow) (β 11 r).toNat (fun n x b hx hp => ?_) (fun n b hp => ?_) fu 0 β (by omega) (fu_lt (by omega)) ⟨AgB.rf, hP⟩
  · exact key
  · obtain ⟨h1, h2⟩ := hp
    have h3 : 0 ≤ β (13 + r) x ∧ β (13 + r) x < 400 := (h8 x (by omega)).1
    show ∃ s', f_X0_liftPieces_L2 r _ (n + 1) (x : Int) b = f_X0_liftPieces_L2 r _ n ((x + 1 : Nat) : Int) s' ∧ _
    have e13 : b (13 + r) = β (13 + r) := h1 _ (by omega)
    have hv := h2.x3v (q := (β (13 + r) x).toNat) (by omega)
    rw [show (((β (13 + r) x).toNat : Nat) : Int) = β (13 + r) x by omega] at hv
    rw [f_X0_liftPieces_L2, ld_t r rfl hr, bs, h1 11 (by omega), if_neg (by omega), gd_t (by omega) (by omega), Int.toNat_natCast, ld_t x rfl (by omega), bs, e13, hv, bs, ck_t (by omega), bs]
    exact ⟨_, rfl, h1.tr vacB_ag, h2.vac (by omega)⟩
  · obtain ⟨h1, h2⟩ := hp
    refine ⟨b, ?_, h1, h2⟩
    show f_X0_liftPieces_L2 _ _ _ _ _ = _
    rw [f_X0_liftPieces_L2, ld_t r rfl hr, bs, h1 11 (by omega), if_pos (by omega), sw_t r rfl hr, bs]
/-- the cost of a row, and its cells -/
def gpg (a : Int) (p : Nat → Int) : Nat → Int
  | 0 => a / 40
  | x + 1 => p x / 40
def costV (a h : Int) (p : Nat → Int) (n : Nat) : Int := (if a / 40 ≠ h / 40 then 2 else 1) + sumN (fun i => if p i / 40 = gpg a p i then 0 else 1) n
def cellV (s : Nat → Int) (a h : Int) (p : Nat → Int) (n : Nat) : Int := cl (s (363 + a.toNat)) + (if a = h then 0 else 1) + sumN (fun i => cl (s (363 + (p i).toNat))) n
theorem cost_rng (a : Int) (p : Nat → Int) (n : Nat) : 0 ≤ sumN (fun i => if p i / 40 = gpg a p i then 0 else 1) n ∧ sumN (fun i => if p i / 40 = gpg a p i then 0 else 1) n ≤ n := by
  constructor
  · refine sumN_nonneg (fun i _ => ?_)
    split <;> omega
  · have := sumN_le (f := fun i => if p i / 40 = gpg a p i then 0 else 1) (n := n) (b := 1) (fun i _ => by split <;> omega)
    omega
theorem x0_costOf {β : Blk} {s : Nat → Int} {w : Nat → Prop} (h : FI s w (β 10) (β 9) (β 11) (fun x i => β (13 + x) i) (fun _ => False)) {r : Nat} (hr : r < 30) (hw : w r) : f_X0_costOf β r = some (costV (β 10 r) (β 9 r) (β (13 + r)) (β 11 r).toNat) := by
  obtain ⟨-, h4, h5, -, hn, h8⟩ := h.own hr hw
  generalize hB : (if β 10 r / 40 ≠ β 9 r / 40 then (2 : Int) else 1) = B
  have hBr : 0 ≤ B ∧ B ≤ 2 := by rw [← hB]; split <;> omega
  have hdef : costV (β 10 r) (β 9 r) (β (13 + r)) (β 11 r).toNat = B + sumN (fun i => if β (13 + r) i / 40 = gpg (β 10 r) (β (13 + r)) i then 0 else 1) (β 11 r).toNat := by unfold costV; rw [hB]
  have key := loopUp (F := fun n (x : Nat) => f_X0_costOf_L32 β r n (gpg (β 10 r) (β (13 + r)) x) (B + sumN (fun i => if β (13 + r) i / 40 = gpg (β 10 r) (β (13 + r)) i then 0 else 1) x) (x : Int)) (R := some (costV (β 10 r) (β 9 r) (β (13 + r)) (β 11 r).toNat)) (β 11 r).toNat (fun n x hx => ?_) (fun n => ?_) fu 0 (by omega) (fu_lt (by omega))
  · unfold f_X0_costOf
    rw [ld_t r rfl hr, bs, dv_t (by omega), bs, ld_t r rfl hr, bs, dv_t (by omega), bs]
    dsimp only [jp]
    have key2 : f_X0_costOf_L32 β r fu (β 10 r / 40) B 0 = some (costV (β 10 r) (β 9 r) (β (13 + r)) (β 11 r).toNat) := by
      have := key
      simp only [sumN, gpg, Int.add_zero] at this
      exact this
    by_cases e : β 10 r / 40 ≠ β 9 r / 40
    · rw [if_pos e] at hB ⊢
      rw [hB]; exact key2
    · rw [if_neg e] at hB ⊢
      rw [hB]; exact key2
  · show f_X0_costOf_L32 _ _ _ _ _ _ = f_X0_costOf_L32 _ _ _ _ _ _
    have h9 : 0 ≤ β (13 + r) x ∧ β (13 + r) x < 400 := (h8 x (by omega)).1
    have hc := cost_rng (β 10 r) (β (13 + r)) x
    rw [f_X0_costOf_L32, ld_t r rfl hr, bs, if_neg (by omega), gd_t (by omega) (by omega), Int.toNat_natCast, ld_t x rfl (by omega), bs, dv_t (by omega), bs]
    dsimp only [jp]
    have e3 : gpg (β 10 r) (β (13 + r)) (x + 1) = β (13 + r) x / 40 := rfl
    have e4 : sumN (fun i => if β (13 + r) i / 40 = gpg (β 10 r) (β (13 + r)) i then (0 : Int) else 1) (x + 1) = sumN (fun i => if β (13 + r) i / 40 = gpg (β 10 r) (β (13 + r)) i then (0 : Int) else 1) x + if β (13 + r) x / 40 = gpg (β 10 r) (β (13 + r)) x then 0 else 1 := rfl
    rw [e3, e4]
    generalize sumN (fun i => if β (13 + r) i / 40 = gpg (β 10 r) (β (13 + r)) i then (0 : Int) else 1) x = S at hc ⊢
    by_cases e : β (13 + r) x / 40 = gpg (β 10 r) (β (13 + r)) x
    · rw [if_pos e, if_pos e, ck_t (by omega), bs, Int.add_zero]
      rfl
    · rw [if_neg e, if_neg e, ck_t (by omega), bs, ck_t (by omega), bs, ← Int.add_assoc]
      rfl
  · show f_X0_costOf_L32 _ _ _ _ _ _ = _
    rw [f_X0_costOf_L32, ld_t r rfl hr, bs, if_pos (by omega), hdef]
