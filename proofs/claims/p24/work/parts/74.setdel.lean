/-! PURE: the whole relation; set, delete *)  -/
def Rel (σ : Blk) (B : Nat → Blk) (nb : Nat) (τ : Blk) : Prop := RF σ nb ∧ RB (B (σ 0 3).toNat) (τ 1) ∧ HI σ B τ ∧ SV σ B τ ∧ PD σ τ
theorem RF.q {σ : Blk} {nb : Nat} (h : RF σ nb) : ∃ q t : Nat, σ 0 3 = q ∧ σ 0 4 = t ∧ q < nb ∧ t < nb ∧ q ≠ t := by
  obtain ⟨h0, h1, h2, h3, -⟩ := h
  have h4 := h2 0 (by omega)
  have h5 := h2 1 (by omega)
  have h6 := h3 0 1 (by omega) (by omega) (by omega) h0
  rw [rf0] at h0 h4 h6
  rw [rf1] at h1 h5 h6
  exact ⟨(σ 0 3).toNat, (σ 0 4).toNat, by omega, by omega, by omega, by omega, by omega⟩
theorem RF.off {σ : Blk} {nb k : Nat} (h : RF σ nb) (hk : (k : Int) = σ 0 3 ∨ (k : Int) = σ 0 4) : (∀ i, i < 6 → 0 ≤ σ 7 i → (σ 7 i).toNat ≠ k) ∧ ∀ i, i < 2 → 0 ≤ σ 8 i → (σ 8 i).toNat ≠ k := by
  constructor
  · intro i hi hp
    have h1 := h.2.2.2.1 (2 + i) 0 (by omega) (by omega) (by omega) (by rw [rf7 σ hi]; exact hp)
    have h2 := h.2.2.2.1 (2 + i) 1 (by omega) (by omega) (by omega) (by rw [rf7 σ hi]; exact hp)
    rw [rf7 σ hi, rf0] at h1
    rw [rf7 σ hi, rf1] at h2
    omega
  · intro i hi hp
    have h1 := h.2.2.2.1 (8 + i) 0 (by omega) (by omega) (by omega) (by rw [rf8 σ hi]; exact hp)
    have h2 := h.2.2.2.1 (8 + i) 1 (by omega) (by omega) (by omega) (by rw [rf8 σ hi]; exact hp)
    rw [rf8 σ hi, rf0] at h1
    rw [rf8 σ hi, rf1] at h2
    omega
theorem HI.ub {σ τ β : Blk} {B : Nat → Blk} {nb k : Nat} (h : HI σ B τ) (hF : RF σ nb) (hk : (k : Int) = σ 0 3 ∨ (k : Int) = σ 0 4) : HI σ (ub B k β) τ :=
  h.congr rfl (fun i hi hp => ⟨rfl, ub_n ((hF.off hk).1 i hi hp)⟩) rfl rfl
theorem SV.ub {σ τ β : Blk} {B : Nat → Blk} {nb k : Nat} (h : SV σ B τ) (hF : RF σ nb) (hk : (k : Int) = σ 0 3 ∨ (k : Int) = σ 0 4) : SV σ (ub B k β) τ :=
  h.congr rfl (fun i hi hp => ub_n ((hF.off hk).2 i hi hp)) rfl rfl
theorem PD.congr {σ σ' τ τ' : Blk} (h : PD σ τ) (h1 : σ' 1 = σ 1) (h2 : σ' 2 = σ 2) (t0 : τ' 0 8 = τ 0 8) (t7 : τ' 7 = τ 7) (t8 : TL τ → TL τ') : PD σ' τ' := by
  obtain ⟨a, b, c, d⟩ := h
  refine ⟨by rw [h1, t0]; exact a, by rw [t0]; exact b, fun j hj => ?_, t8 d⟩
  rw [t0] at hj
  rw [h2, t7]
  exact c j hj
theorem HI.cT {σ τ τ' : Blk} {B : Nat → Blk} (h : HI σ B τ) (t0 : τ' 0 4 = τ 0 4) (t4 : τ' 4 = τ 4) : HI σ B τ' := h.congr rfl (fun _ _ _ => ⟨rfl, rfl⟩) t0 t4
theorem SV.cT {σ τ τ' : Blk} {B : Nat → Blk} (h : SV σ B τ) (t5 : τ' 5 = τ 5) (t6 : τ' 6 = τ 6) : SV σ B τ' := h.congr rfl (fun _ _ _ => rfl) t5 t6
/-- the model's side changed, but for what is kept -/
theorem Rel.cT {σ τ τ' : Blk} {B : Nat → Blk} {nb : Nat} (h : Rel σ B nb τ) (h1 : ∀ j, j < 763 → τ' 1 j = τ 1 j) (hy : (∀ c, 4 ≤ c ∧ c ≤ 7 → τ' c = τ c) ∧ τ' 0 4 = τ 0 4 ∧ τ' 0 8 = τ 0 8 ∧ (TL τ → TL τ')) : Rel σ B nb τ' :=
  ⟨h.1, h.2.1.congrS h1, h.2.2.1.cT hy.2.1 (hy.1 4 (by omega)), h.2.2.2.1.cT (hy.1 5 (by omega)) (hy.1 6 (by omega)), h.2.2.2.2.congr rfl rfl hy.2.2.1 (hy.1 7 (by omega)) hy.2.2.2⟩
theorem Rel.fz {σ τ τ' : Blk} {B : Nat → Blk} {nb : Nat} (h : Rel σ B nb τ) (hz : Fz τ τ') : Rel σ B nb τ' :=
  h.cT (fun j _ => by rw [hz.1 1 (by omega) (by omega)]) ⟨fun c hc => hz.1 c (by omega) (by omega), hz.2 4 (by omega), hz.2 8 (by omega), TL.of (hz.1 8 (by omega) (by omega))⟩
theorem rb_set {β : Blk} {s : Nat → Int} {j : Nat} {a : Int} (hj : (j = 0 ∧ 0 ≤ a ∧ a ≤ 16) ∨ (j = 1 ∧ 1 ≤ a ∧ a ≤ 12)) (h : RB β s) : RB (up2 β 0 j a) (us s j a) := by
  obtain ⟨⟨⟨h1, h2, h3⟩, hR, hP, hF, hL, hZ, hW⟩, hT⟩ := h
  have hp : ∀ r k, r < 30 → k < 12 → pt (us s j a) r k = pt s r k := fun r k hr hk => pt_us2 (by omega) hr hk
  have hq : ∀ q, q < 400 → us s j a (363 + q) = s (363 + q) := fun q _ => us_n (by omega)
  have hb : ∀ c, c ≠ 0 → up2 β 0 j a c = β c := fun c hc => up2_ne hc
  have hPP : PP (up2 β 0 j a) = PP β := by
    funext x i
    show up2 β 0 j a (13 + x) i = β (13 + x) i
    rw [hb _ (by omega)]
  refine ⟨⟨⟨?_, ?_, ?_⟩, hR.congr (fun k _ => by rw [hb 6 (by omega)]) (fun x _ => by rw [hb 7 (by omega)]) (us_n (by omega)) (fun x hx => ⟨hp x 0 hx (by omega), hp x 1 hx (by omega)⟩), ?_, ?_, fun x hx hi => ?_, fun x hx hi => ?_, fun x hx hw => hw⟩, fun x hx hi k hk => ?_⟩
  · rcases hj with ⟨rfl, ha⟩ | ⟨rfl, ha⟩
    · rw [up2_s, us_s]; exact ⟨rfl, ha⟩
    · rw [up2_n (by omega), us_n (by omega)]; exact h1
  · rcases hj with ⟨rfl, ha⟩ | ⟨rfl, ha⟩
    · rw [up2_n (by omega), us_n (by omega)]; exact h2
    · rw [up2_s, us_s]; exact ⟨rfl, ha⟩
  · rw [up2_n (by omega), us_n (by omega)]; exact h3
  · exact hP.congr (fun c h5 h6 => hb c (by omega)) hq (fun q _ _ => by rw [hb 7 (by omega)])
  · rw [hPP, hb 9 (by omega), hb 10 (by omega), hb 11 (by omega)]
    exact hF.congr hq (fun x hx => by unfold isr; rw [hp x 0 hx (by omega)]) (fun _ _ _ => ⟨rfl, rfl, rfl, fun _ _ => rfl⟩)
  · rw [hp x 0 hx (by omega)] at hi
    have h5 := hL x hx hi
    rw [hp x 2 hx (by omega), hp x 3 hx (by omega), hp x 4 hx (by omega), hb 8 (by omega), hb 9 (by omega), hb 10 (by omega)]
    exact ⟨h5.1, h5.2.1, h5.2.2.1.congr (fun k hk => hp x k hx hk), fun _ => h5.2.2.2 hi⟩
  · rw [hp x 0 hx (by omega)] at hi
    rw [hp x 2 hx (by omega)]
    exact hZ x hx hi
  · rw [hp x 0 hx (by omega)] at hi
    rw [hp x 2 hx (by omega)] at hk
    have h5 := (hL x hx hi).2.1
    rw [hb (44 + x) (by omega), lt_c (fun m hm => hp x _ hx (by omega)) (by omega)]
    exact hT x hx hi k hk
/-- both sides record, then change what is now -/
theorem rec_change {σ τ : Blk} {B : Nat → Blk} {nb : Nat} (h : Rel σ B nb τ) : ∃ (q : Nat) (σ1 : Blk) (B1 : Nat → Blk) (nb1 : Nat) (τ1 : Blk), σ 0 3 = q ∧ q < nb ∧ σ1 0 3 = q ∧ q < nb1 ∧ B1 q = B q ∧ τ1 1 = τ 1 ∧ f_X1_record σ B nb q = some (σ1, B1, nb1) ∧ f_X5_record τ 1 763 = some τ1 ∧ Rel σ1 B1 nb1 τ1 ∧ (∀ c, c ≠ 6 → c ≠ 7 → σ1 c = σ c) ∧ (∀ c, c ≠ 0 → c ≠ 4 → τ1 c = τ c) ∧ (∀ j, j ≠ 4 → τ1 0 j = τ 0 j) ∧ ∀ (β' τ2 : Blk), RB β' (τ2 1) → Fx τ1 τ2 → Rel σ1 (ub B1 q β') nb1 τ2 := by
  obtain ⟨hF, hB, hH, hS, hP⟩ := h
  obtain ⟨q, t, e1, e2, e3, e4, e5⟩ := hF.q
  obtain ⟨σ1, B1, nb1, τ1, r1, r2, r3⟩ := record_ok hF hH hS (c := 1) (Or.inl rfl) hB
  obtain ⟨o1, o2, o3, o4, o5, o6, o7, o8⟩ := r3
  rw [e1, Int.toNat_natCast] at r1 o5 hB
  have e6 : σ1 0 3 = q := by rw [o4 0 (by omega) (by omega)]; exact e1
  have e7 := o1.2.2.1 0 (by omega)
  rw [rf0, e6] at e7
  have et1 : τ1 1 = τ 1 := o7 1 (by omega) (by omega)
  have hP1 : PD σ1 τ1 := hP.congr (o4 1 (by omega) (by omega)) (o4 2 (by omega) (by omega)) (o8 8 (by omega)) (o7 7 (by omega) (by omega)) (TL.of (o7 8 (by omega) (by omega)))
  refine ⟨q, σ1, B1, nb1, τ1, e1, e3, e6, by omega, o5, et1, r1, r2, ⟨o1, ?_, o2, o3, hP1⟩, o4, o7, o8, fun β' τ2 hb hx => ?_⟩
  · rw [e6, Int.toNat_natCast, o5, et1]; exact hB
  · refine ⟨o1, ?_, (o2.ub o1 (Or.inl e6.symm)).cT (hx.2 4 (by omega)) (hx.1 4 (by omega) (by omega) (by omega) (by omega)), (o3.ub o1 (Or.inl e6.symm)).cT (hx.1 5 (by omega) (by omega) (by omega) (by omega)) (hx.1 6 (by omega) (by omega) (by omega) (by omega)), hP1.congr rfl rfl (hx.2 8 (by omega)) (hx.1 7 (by omega) (by omega) (by omega) (by omega)) (TL.of (hx.1 8 (by omega) (by omega) (by omega) (by omega)))⟩
    rw [e6, Int.toNat_natCast, ub_s]
    exact hb
theorem set_ok {σ τ : Blk} {B : Nat → Blk} {nb : Nat} (h : Rel σ B nb τ) (a1 a2 : Int) : ∃ v σ' B' nb' τ', f_X4_set σ B nb a1 a2 = some (v, σ', B', nb') ∧ f_X5_set τ a1 a2 = some (v, τ') ∧ Rel σ' B' nb' τ' := by
  obtain ⟨q, σ1, B1, nb1, τ1, e1, e2, e3, e4, e5, e6, r1, r2, r3, -, -, -, r4⟩ := rec_change h
  have hB := r3.2.1
  rw [e3, Int.toNat_natCast] at hB
  have hSET := hB.1.1
  unfold f_X4_set f_X5_set f_X5_isValue
  by_cases f0 : a1 = 0
  · rw [if_neg (show ¬ a1 ≠ 0 by omega), if_neg (show ¬ a1 ≠ 0 by omega), x5_within, bs]
    unfold f_X4_setHead
    by_cases g1 : a2 < 0
    · rw [if_pos g1, if_pos g1, bd4_t, ckB_t (by omega), bs, bs, if_neg (by decide)]
      exact ⟨_, _, _, _, _, rfl, rfl, h⟩
    rw [if_neg g1, if_neg g1]
    by_cases g2 : a2 ≤ 16
    · rw [if_pos g2, if_neg (show ¬ 16 < a2 by omega), gk_t e1 e2, r1, bd3_t, gk_t e3 e4, nm_t, gk_t e3 e4, bp_t, bd4_t, ckB_t (by omega), bs, bs, if_pos (by decide), r2, bs, ld_t 0 f0 (by omega), bs, sw_t 0 f0 (by omega), bs, hSET.1.1]
      exact ⟨_, _, _, _, _, rfl, rfl, r4 _ _ (by rw [up2_row]; exact rb_set (Or.inl ⟨rfl, by omega, g2⟩) hB) (Fx.up (Or.inl rfl))⟩
    · rw [if_neg g2, if_pos (show 16 < a2 by omega), bd4_t, ckB_t (by omega), bs, bs, if_neg (by decide)]
      exact ⟨_, _, _, _, _, rfl, rfl, h⟩
  · rw [if_pos (show a1 ≠ 0 from f0), if_pos (show a1 ≠ 0 from f0)]
    by_cases f1 : a1 = 1
    · rw [if_neg (show ¬ a1 ≠ 1 by omega), if_neg (show ¬ a1 ≠ 1 by omega), x5_within, bs]
      unfold f_X4_setPiece
      by_cases g1 : a2 < 1
      · rw [if_pos g1, if_pos g1, bd4_t, if_pos rfl, bs, if_neg (by decide)]
        exact ⟨_, _, _, _, _, rfl, rfl, h⟩
      rw [if_neg g1, if_neg g1]
      by_cases g2 : a2 ≤ 12
      · rw [if_pos g2, if_neg (show ¬ 12 < a2 by omega), gk_t e1 e2, r1, bd3_t, gk_t e3 e4, nm_t, gk_t e3 e4, bp_t, bd4_t, if_neg (show ¬ ((1 : Int) = 0) by decide), bs, if_pos (by decide), r2, bs, ld_t 1 f1 (by omega), bs, sw_t 1 f1 (by omega), bs, hSET.2.1.1]
        exact ⟨_, _, _, _, _, rfl, rfl, r4 _ _ (by rw [up2_row]; exact rb_set (Or.inr ⟨rfl, by omega, g2⟩) hB) (Fx.up (Or.inl rfl))⟩
      · rw [if_neg g2, if_pos (show 12 < a2 by omega), bd4_t, if_pos rfl, bs, if_neg (by decide)]
        exact ⟨_, _, _, _, _, rfl, rfl, h⟩
    · rw [if_pos (show a1 ≠ 1 from f1), if_pos (show a1 ≠ 1 from f1), bs, if_neg (by decide)]
      exact ⟨_, _, _, _, _, rfl, rfl, h⟩
theorem delete_ok {σ τ : Blk} {B : Nat → Blk} {nb : Nat} (h : Rel σ B nb τ) (a1 : Int) : ∃ v σ' B' nb' τ', f_X4_delete σ B nb a1 = some (v, σ', B', nb') ∧ f_X5_delete τ a1 = some (v, τ') ∧ Rel σ' B' nb' τ' := by
  obtain ⟨q, σ1, B1, nb1, τ1, e1, e2, e3, e4, e5, e6, r1, r2, r3, -, -, -, r4⟩ := rec_change h
  have hB := r3.2.1
  rw [e3, Int.toNat_natCast] at hB
  have hR := h.2.1.1.2.1
  rw [e1, Int.toNat_natCast] at hR
  have hdel : f_X5_delete τ a1 = Option.bind (f_X5_rowWith τ a1) fun r1 => if r1 ≠ (-6) then Option.bind (f_X5_record τ 1 763) fun σ2 => delR σ2 r1 else some ((-1), τ) := rfl
  rw [hdel]
  unfold f_X4_delete
  rw [gk_t e1 e2, x0_rowOf hR, bs, x5_rowWith hR, bs]
  rcases hR.key a1 with hk | ⟨r, hr, hk, hi, -, -⟩
  · rw [hk, if_pos rfl, if_neg (by decide), if_neg (by decide)]
    exact ⟨_, _, _, _, _, rfl, rfl, h⟩
  · obtain ⟨v, β', τ2, d1, d2, d3, d4, d5⟩ := remove_row hB hr (by rw [e6]; exact hi)
    rw [hk, if_neg (show ¬ (r : Int) = -1 by omega), if_pos (show (r : Int) ≠ -1 by omega), if_pos (show (r : Int) ≠ -6 by omega), gk_t e1 e2, r1, bd3_t, gk_t e3 e4, d1, bs, gk_t e3 e4, d2, cbU_t, r2, bs, d3]
    exact ⟨_, _, _, _, _, rfl, rfl, r4 _ _ d4 d5⟩
