/-! PURE: record *)  -/
theorem HI.congr {σ σ' τ τ' : Blk} {B B' : Nat → Blk} (h : HI σ B τ) (h6 : σ' 6 = σ 6) (h7 : ∀ i, i < 6 → 0 ≤ σ 7 i → σ' 7 i = σ 7 i ∧ B' (σ 7 i).toNat = B (σ 7 i).toNat) (t0 : τ' 0 4 = τ 0 4) (t4 : τ' 4 = τ 4) : HI σ' B' τ' := by
  obtain ⟨a, b, c, d⟩ := h
  refine ⟨by rw [h6, t0]; exact a, by rw [t0]; exact b, by rw [h6]; exact c, fun i hi => ?_⟩
  rw [t0] at hi
  have h1 := d i hi
  have h2 := h7 (((σ 6 2).toNat + i) % 6) (by omega) h1.1
  rw [h6, h2.1, t4, h2.2]
  exact h1
theorem SV.congr {σ σ' τ τ' : Blk} {B B' : Nat → Blk} (h : SV σ B τ) (h8 : σ' 8 = σ 8) (hB : ∀ i, i < 2 → 0 ≤ σ 8 i → B' (σ 8 i).toNat = B (σ 8 i).toNat) (t5 : τ' 5 = τ 5) (t6 : τ' 6 = τ 6) : SV σ' B' τ' := fun i hi => by
  rw [h8, t5, t6]
  rcases h i hi with h1 | h1
  · exact Or.inl h1
  · refine Or.inr ⟨h1.1, h1.2.1, ?_⟩
    rw [hB i hi h1.1]
    exact h1.2.2
theorem jp_t {γ δ : Type} {K : γ} {f : γ → δ} : jp K f = f K := rfl
theorem x5_shift {τ : Blk} {j : Blk → Option Blk} : ∃ u, f_X5_record_L11 j fu 0 τ = j u ∧ (∀ c, c ≠ 4 → u c = τ c) ∧ ∀ i, i < 3815 → u 4 i = τ 4 (i + 763) := by
  have key := loopSt (F := fun n (x : Nat) (s : Blk) => f_X5_record_L11 j n (x : Int) s) (P := fun x s => (∀ c, c ≠ 4 → s c = τ c) ∧ (∀ i, i < x → s 4 i = τ 4 (i + 763)) ∧ ∀ i, x ≤ i → s 4 i = τ 4 i) (Q := fun o => ∃ u, o = j u ∧ (∀ c, c ≠ 4 → u c = τ c) ∧ ∀ i, i < 3815 → u 4 i = τ 4 (i + 763)) 3815 (fun n x s hx hp => ?_) (fun n s hp => ?_) fu 0 τ (by omega) (fu_lt (by omega)) ⟨fun _ _ => rfl, fun i hi => by omega, fun _ _ => rfl⟩
  · exact key
  · obtain ⟨a1, a2, a3⟩ := hp
    show ∃ s', f_X5_record_L11 j (n + 1) (x : Int) s = f_X5_record_L11 j n ((x + 1 : Nat) : Int) s' ∧ _
    rw [f_X5_record_L11, if_neg (by omega), ld_t (x + 763) (by omega) (by omega), bs, sw_t x rfl (by omega), bs, ck_t (by omega), bs]
    refine ⟨_, rfl, fun c hc => by rw [up2_ne hc]; exact a1 c hc, fun i hi => ?_, fun i hi => by rw [up2_n (by omega)]; exact a3 i (by omega)⟩
    by_cases e : i = x
    · rw [e, up2_s, a3 _ (by omega)]
    · rw [up2_n (by omega)]
      exact a2 i (by omega)
  · obtain ⟨a1, a2, a3⟩ := hp
    refine ⟨s, ?_, a1, a2⟩
    show f_X5_record_L11 _ _ _ _ = _
    rw [f_X5_record_L11, if_pos (by omega)]
theorem x5_rec1 {u : Blk} {c m : Nat} (hc : c = 1 ∨ c = 2) (hu : u 0 4 = (m : Int)) (hm : m < 6) : ∃ τ', (Option.bind (ck (u 0 4 * 763)) fun v3 => Option.bind (f_X5_moves u c 763 0 4 4578 v3) fun σ4 => Option.bind (ck ((σ4 0 4) + 1)) fun v5 => pf σ4 0 4 v5 fun σ6 => some σ6) = some τ' ∧ (∀ c, c ≠ 0 → c ≠ 4 → τ' c = u c) ∧ (∀ j, j ≠ 4 → τ' 0 j = u 0 j) ∧ τ' 0 4 = m + 1 ∧ (∀ i, i < 763 * m → τ' 4 i = u 4 i) ∧ ∀ j, j < 763 → τ' 4 (763 * m + j) = u c j := by
  obtain ⟨v, v1, v2, v3, v4⟩ := x5_moves (σ := u) (i1 := c) (n1 := 763) (i3 := 4) (n3 := 4578) (a2 := 0) (a4 := (m : Int) * 763) 0 (763 * m) (by omega) (by omega) (by omega) (by omega) (by omega)
  have e : v 0 4 = m := by rw [v2 0 (by omega)]; exact hu
  refine ⟨up2 v 0 4 (m + 1), ?_, fun c h1 h2 => by rw [up2_ne h1]; exact v2 c h2, fun j hj => by rw [up2_n (by omega), v2 0 (by omega)], up2_s, fun i hi => by rw [up2_ne (by omega)]; exact v4 i (by omega), fun j hj => ?_⟩
  · rw [hu, ck_t (by omega), bs, v1, bs, e, ck_t (by omega), bs, pf_t]
  · rw [up2_ne (by omega), v3 j hj, Nat.zero_add]
theorem x5_record {τ : Blk} {c : Nat} (hc : c = 1 ∨ c = 2) (hn : 0 ≤ τ 0 4 ∧ τ 0 4 ≤ 6) : ∃ τ', f_X5_record τ c 763 = some τ' ∧ (∀ c, c ≠ 0 → c ≠ 4 → τ' c = τ c) ∧ (∀ j, j ≠ 4 → τ' 0 j = τ 0 j) ∧ ((τ 0 4 < 6 ∧ τ' 0 4 = τ 0 4 + 1 ∧ (∀ i, i < 763 * (τ 0 4).toNat → τ' 4 i = τ 4 i) ∧ ∀ j, j < 763 → τ' 4 (763 * (τ 0 4).toNat + j) = τ c j) ∨ (τ 0 4 = 6 ∧ τ' 0 4 = 6 ∧ (∀ i, i < 3815 → τ' 4 i = τ 4 (i + 763)) ∧ ∀ j, j < 763 → τ' 4 (763 * 5 + j) = τ c j)) := by
  unfold f_X5_record
  rw [jp_t]
  by_cases e6 : τ 0 4 ≠ 6
  · obtain ⟨t, t1, t2, t3, t4, t5, t6⟩ := x5_rec1 (u := τ) (m := (τ 0 4).toNat) hc (by omega) (by omega)
    rw [if_pos e6]
    exact ⟨t, t1, t2, t3, Or.inl ⟨by omega, by omega, t5, t6⟩⟩
  · rw [if_neg e6, jp_t]
    obtain ⟨u, u1, u2, u3⟩ := x5_shift (τ := τ) (j := fun (σ8 : Blk) => Option.bind (ck ((σ8 0 4) - 1)) fun v9 => pf σ8 0 4 v9 fun σ10 => Option.bind (ck (σ10 0 4 * 763)) fun v3 => Option.bind (f_X5_moves σ10 c 763 0 4 4578 v3) fun σ4 => Option.bind (ck ((σ4 0 4) + 1)) fun v5 => pf σ4 0 4 v5 fun σ6 => some σ6)
    have e04 : u 0 4 = 6 := by rw [u2 0 (by omega)]; omega
    obtain ⟨t, t1, t2, t3, t4, t5, t6⟩ := x5_rec1 (u := up2 u 0 4 5) (m := 5) hc up2_s (by omega)
    refine ⟨t, ?_, fun c h1 h2 => by rw [t2 c h1 h2, up2_ne h1]; exact u2 c h2, fun j hj => by rw [t3 j hj, up2_n (by omega), u2 0 (by omega)], Or.inr ⟨by omega, by rw [t4]; rfl, fun i hi => by rw [t5 i (by omega), up2_ne (by omega)]; exact u3 i hi, fun j hj => by rw [t6 j hj, up2_ne (by omega), u2 c (by omega)]⟩⟩
    refine u1.trans ?_
    rw [e04, ck_t (by omega), bs, pf_t]
    exact t1
/-- what a record leaves: of the whole object, and of the model -/
def RO (σ σ' : Blk) (B B' : Nat → Blk) (nb' : Nat) (τ τ' : Blk) : Prop := RF σ' nb' ∧ HI σ' B' τ' ∧ SV σ' B' τ' ∧ (∀ c, c ≠ 6 → c ≠ 7 → σ' c = σ c) ∧ B' (σ 0 3).toNat = B (σ 0 3).toNat ∧ B' (σ 0 4).toNat = B (σ 0 4).toNat ∧ (∀ c, c ≠ 0 → c ≠ 4 → τ' c = τ c) ∧ ∀ j, j ≠ 4 → τ' 0 j = τ 0 j
theorem record_ok {σ τ : Blk} {B : Nat → Blk} {nb c : Nat} (hF : RF σ nb) (hH : HI σ B τ) (hS : SV σ B τ) (hc : c = 1 ∨ c = 2) (hB : RB (B (σ 0 3).toNat) (τ c)) : ∃ σ' B' nb' τ', f_X1_record σ B nb (σ 0 3).toNat = some (σ', B', nb') ∧ f_X5_record τ c 763 = some τ' ∧ RO σ σ' B B' nb' τ τ' := by
  obtain ⟨h1, h2, h3, h4⟩ := hH
  obtain ⟨τ', t1, t2, t3, t4⟩ := x5_record hc h2
  have hq0 := hF.1
  have hqn := hF.2.2.1 0 (by omega)
  have htn := hF.2.2.1 1 (by omega)
  have ht0 := hF.2.1
  have hdqt := hF.2.2.2.1 0 1 (by omega) (by omega) (by omega) hq0
  rw [rf0] at hq0 hqn hdqt
  rw [rf1] at ht0 htn hdqt
  obtain ⟨q, hq⟩ : ∃ q : Nat, σ 0 3 = q := ⟨(σ 0 3).toNat, by omega⟩
  rw [hq, Int.toNat_natCast] at hB
  obtain ⟨n, hn⟩ : ∃ n : Nat, τ 0 4 = n := ⟨(τ 0 4).toNat, by omega⟩
  obtain ⟨f, hf⟩ : ∃ f : Nat, σ 6 2 = f := ⟨(σ 6 2).toNat, by omega⟩
  rw [hf, Int.toNat_natCast] at h4
  rw [hn] at h1 h2 h4 t4
  have hslot : (f + n) % 6 < 6 := by omega
  -- the part after the slot has its Book
  have tail : ∀ (u : Blk) (C : Nat → Blk) (N : Nat), RF u N → (∀ c, c ≠ 7 → u c = σ c) → 0 ≤ u 7 ((f + n) % 6) → (∀ i : Nat, i < n → i < 6 → (f + i) % 6 ≠ (f + n) % 6 → u 7 ((f + i) % 6) = σ 7 ((f + i) % 6)) → (∀ k : Nat, k < nb → C k = B k) → ∃ σ' B', (Option.bind (ld u 7 6 (((f + n) % 6 : Nat) : Int)) fun v8 => gk v8 N fun q9 => lk q N <| ne q9 q (cbU (f_X0_copyFrom (C q9) (C q)) C q9 fun B10 => if 6 ≤ u 6 1 then (Option.bind (ck ((u 6 2) + 1)) fun v11 => Option.bind (rm_ v11 6) fun v12 => pf u 6 2 v12 fun σ13 => some (σ13, B10, N)) else (Option.bind (ck ((u 6 1) + 1)) fun v14 => pf u 6 1 v14 fun σ15 => some (σ15, B10, N)))) = some (σ', B', N) ∧ RO σ σ' B B' N τ τ' := by
    intro u C N uF uc ua us uB
    obtain ⟨a, ha⟩ : ∃ a : Nat, u 7 ((f + n) % 6) = a := ⟨(u 7 ((f + n) % 6)).toNat, by omega⟩
    have ra : rf u (2 + (f + n) % 6) = a := by rw [rf7 u hslot]; exact ha
    have rq : rf u 0 = q := by rw [rf0, uc 0 (by omega)]; exact hq
    have haN := uF.2.2.1 (2 + (f + n) % 6) (by omega)
    have hqN := uF.2.2.1 0 (by omega)
    have hne := uF.2.2.2.1 (2 + (f + n) % 6) 0 (by omega) (by omega) (by omega) (by omega)
    have hne1 := uF.2.2.2.1 (2 + (f + n) % 6) 1 (by omega) (by omega) (by omega) (by omega)
    rw [ra] at haN hne hne1
    rw [rq] at hqN hne
    rw [rf1, uc 0 (by omega)] at hne1
    obtain ⟨β', b1, b2⟩ := x0_copyFrom (σ := C a) (τ := C q)
    rw [ld_t ((f + n) % 6) rfl hslot, bs, gk_t ha (by omega), lk_t (by omega), ne_t (by omega), b1, cbU_t]
    have hBn : RB β' (τ c) := by
      refine (RB.congrB ?_ b2)
      rw [uB q (by omega)]
      exact hB
    have hkeep : ∀ k : Nat, k < nb → k ≠ a → ub C a β' k = B k := fun k hk hka => by rw [ub_n hka]; exact uB k hk
    have hold : ∀ i : Nat, i < n → (f + i) % 6 ≠ (f + n) % 6 → 0 ≤ u 7 ((f + i) % 6) ∧ RB (ub C a β' (u 7 ((f + i) % 6)).toNat) (fun j => τ 4 (763 * i + j)) := fun i hi hne2 => by
      have h5 := h4 i (by omega)
      have h6 := us i hi (by omega) hne2
      have h7 := uF.2.2.2.1 (2 + (f + i) % 6) (2 + (f + n) % 6) (by omega) (by omega) (by omega) (by rw [rf7 u (by omega), h6]; exact h5.1)
      rw [rf7 u (by omega), ra, h6] at h7
      have h8 := hF.2.2.1 (2 + (f + i) % 6) (by omega)
      rw [rf7 σ (by omega)] at h8
      rw [h6, hkeep _ (by omega) (by omega)]
      exact h5
    have hsv : ∀ σ' : Blk, σ' 8 = σ 8 → SV σ' (ub C a β') τ' := fun σ' e8 => hS.congr e8 (fun i hi hp => by
      have h7 := uF.2.2.2.1 (2 + (f + n) % 6) (8 + i) (by omega) (by omega) (by omega) (by omega)
      rw [ra, rf8 u hi, uc 8 (by omega)] at h7
      have h8 := hF.2.2.1 (8 + i) (by omega)
      rw [rf8 σ hi] at h8
      exact hkeep _ (by omega) (by omega)) (t2 5 (by omega) (by omega)) (t2 6 (by omega) (by omega))
    have hq' : ub C a β' (σ 0 3).toNat = B (σ 0 3).toNat := hkeep _ (by omega) (by omega)
    have ht' : ub C a β' (σ 0 4).toNat = B (σ 0 4).toNat := hkeep _ (by omega) (by omega)
    have u61 : u 6 1 = n := by rw [uc 6 (by omega)]; exact h1
    have u62 : u 6 2 = f := by rw [uc 6 (by omega)]; exact hf
    rcases t4 with ⟨w1, w2, w3, w4⟩ | ⟨w1, w2, w3, w4⟩
    · rw [Int.toNat_natCast] at w3 w4
      rw [if_neg (by omega), u61, ck_t (by omega), bs, pf_t]
      refine ⟨_, _, rfl, uF.congr (up2_n (by omega)) (up2_n (by omega)) (up2_ne (by omega)) (up2_ne (by omega)), ⟨?_, ?_, ?_, fun i hi => ?_⟩, hsv _ (by rw [up2_ne (by omega), uc 8 (by omega)]), fun c' h5 h6 => by rw [up2_ne h5]; exact uc c' h6, hq', ht', t2, t3⟩
      · rw [up2_s, w2]
      · rw [w2]; omega
      · rw [up2_n (by omega), u62]; omega
      · rw [w2] at hi
        rw [up2_n (by omega), up2_n (by omega), u62, Int.toNat_natCast]
        by_cases e : i = n
        · subst e
          rw [ha, Int.toNat_natCast, ub_s]
          exact ⟨by omega, hBn.congrS (fun j hj => w4 j hj)⟩
        · have h9 := hold i (by omega) (by omega)
          exact ⟨h9.1, h9.2.congrS (fun j hj => w3 _ (by omega))⟩
    · have e6 : n = 6 := by omega
      subst e6
      rw [if_pos (by omega), u62, ck_t (by omega), bs, rm_t (by omega), bs, pf_t]
      refine ⟨_, _, rfl, uF.congr (up2_n (by omega)) (up2_n (by omega)) (up2_ne (by omega)) (up2_ne (by omega)), ⟨?_, ?_, ?_, fun i hi => ?_⟩, hsv _ (by rw [up2_ne (by omega), uc 8 (by omega)]), fun c' h5 h6 => by rw [up2_ne h5]; exact uc c' h6, hq', ht', t2, t3⟩
      · rw [up2_n (by omega), w2]; exact u61
      · rw [w2]; omega
      · rw [up2_s]; omega
      · rw [w2] at hi
        rw [up2_s, up2_ne (by omega)]
        by_cases e : i = 5
        · subst e
          rw [show (((f : Int) + 1) % 6).toNat + 5 = ((f + 1) % 6) + 5 by omega, show ((f + 1) % 6 + 5) % 6 = (f + 6) % 6 by omega, ha, Int.toNat_natCast, ub_s]
          exact ⟨by omega, hBn.congrS (fun j hj => w4 j hj)⟩
        · have h9 := hold (i + 1) (by omega) (by omega)
          rw [show ((((f : Int) + 1) % 6).toNat + i) % 6 = (f + (i + 1)) % 6 by omega]
          refine ⟨h9.1, h9.2.congrS (fun j hj => ?_)⟩
          show τ' 4 (763 * i + j) = τ 4 (763 * (i + 1) + j)
          rw [w3 _ (by omega), show 763 * i + j + 763 = 763 * (i + 1) + j by omega]
  unfold f_X1_record
  dsimp only [jp]
  rw [h1, hf, ck_t (by omega), bs, rm_t (by omega), bs, show ((f : Int) + n) % 6 = (((f + n) % 6 : Nat) : Int) by omega, ld_t ((f + n) % 6) rfl hslot, bs, hq, Int.toNat_natCast]
  by_cases ev : σ 7 ((f + n) % 6) < 0
  · obtain ⟨β0, i1, -⟩ := x0_init
    have hnb := hF.nb
    rw [if_pos ev, nB_t i1, ck_t (by omega), bs, sw_t ((f + n) % 6) rfl hslot, bs]
    obtain ⟨σ', B', r1, r2⟩ := tail (up2 σ 7 ((f + n) % 6) nb) (ub B nb β0) (nb + 1) (hF.new (k := 2 + (f + n) % 6) (by omega) (by rw [rf7 σ hslot]; exact ev) (fun i hi => by
      unfold rf
      by_cases e : i = 2 + (f + n) % 6
      · rw [if_pos e, if_neg (by omega), if_neg (by omega), if_pos (by omega), show i - 2 = (f + n) % 6 by omega, up2_s]
      · rw [if_neg e]
        by_cases e0 : i = 0
        · rw [if_pos e0, if_pos e0, up2_n (by omega)]
        rw [if_neg e0, if_neg e0]
        by_cases e1 : i = 1
        · rw [if_pos e1, if_pos e1, up2_n (by omega)]
        rw [if_neg e1, if_neg e1]
        by_cases e8 : i < 8
        · rw [if_pos e8, if_pos e8, up2_n (by omega)]
        · rw [if_neg e8, if_neg e8, up2_n (by omega)])) (fun c hc => up2_ne hc) (by rw [up2_s]; omega) (fun i _ _ hne => up2_n (by omega)) (fun k hk => ub_n (by omega))
    exact ⟨σ', B', nb + 1, τ', r1, t1, r2⟩
  · rw [if_neg ev]
    obtain ⟨σ', B', r1, r2⟩ := tail σ B nb hF (fun _ _ => rfl) (by omega) (fun _ _ _ _ => rfl) (fun _ _ => rfl)
    rw [h1, hf, ld_t ((f + n) % 6) rfl hslot] at r1
    exact ⟨σ', B', nb, τ', r1, t1, r2⟩
