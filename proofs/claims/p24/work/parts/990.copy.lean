/-! PURE: the law's tables copied; packed with another head *)  -/
theorem INVc.congr {T T' : Blk} {s s' : Nat → Int} (h : INVc T s) (hT : ∀ c, c = 0 ∨ c = 1 ∨ c = 2 ∨ c = 6 → T' c = T c) (hs : ∀ j, j < 763 → s' j = s j) : INVc T' s' := by
  obtain ⟨⟨n, a1⟩, a2, a3, a4, a5, a6⟩ := h
  have hp : ∀ x k, x < 30 → k < 12 → pt s' x k = pt s x k := fun x k hx hk => hs _ (by omega)
  refine ⟨⟨n, a1.congr (by rw [hT 0 (by omega)]) (fun k _ => by rw [hT 2 (by omega)]) (fun p hp => hs _ (by omega))⟩, a2.congr (fun j _ => by rw [hT 1 (by omega)]) (fun x k hx hk => hp x k hx (by omega)), ?_, fun x hx hi => ?_, fun x hx => ?_, ?_⟩
  · rw [hT 0 (by omega), hs 0 (by omega), hs 1 (by omega), hs 2 (by omega)]
    exact a3
  · rw [hp x 0 (by omega) (by omega)] at hi
    have hl := (a2.live (by omega) hi).2.2.2.1
    rw [hp x 2 (by omega) (by omega)]
    exact (a4 x hx hi).congr (fun j _ => LV_congr (hT 6 (by omega))) (fun k hk => lt_c (fun m hm => hp x _ (by omega) (by omega)) (by omega))
  · rw [Wg_congr (fun p hp => hs _ (by omega)), Wg_congr (fun p hp => hs _ (by omega))]
    exact a5 x hx
  · rw [hs 1 (by omega)]
    exact a6
/-- the tables 0, 1, 2 copied to 3, 4, 5 -/
theorem l_copy {T : Blk} : ∃ T', g_L_copy T 0 4 1 28 2 64 3 4 4 28 5 64 = some T' ∧ (∀ c, c ≠ 3 → c ≠ 4 → c ≠ 5 → T' c = T c) ∧ (∀ j, j < 4 → T' 3 j = T 0 j) ∧ (∀ j, j < 28 → T' 4 j = T 1 j) ∧ ∀ j, j < 64 → T' 5 j = T 2 j := by
  have k3 : ∀ U : Blk, ∃ T', g_L_copy_L51 2 64 5 64 fu 0 U = some T' ∧ (∀ c, c ≠ 5 → T' c = U c) ∧ ∀ j, j < 64 → T' 5 j = U 2 j := fun U => by
    refine loopSt (F := fun n (x : Nat) (z : Blk) => g_L_copy_L51 2 64 5 64 n (x : Int) z) (P := fun x z => (∀ c, c ≠ 5 → z c = U c) ∧ ∀ j, j < x → z 5 j = U 2 j) (Q := fun o => ∃ T', o = some T' ∧ (∀ c, c ≠ 5 → T' c = U c) ∧ ∀ j, j < 64 → T' 5 j = U 2 j) 64 (fun n x z hx hp => ?_) (fun n z hp => ?_) fu 0 U (by omega) (fu_lt (by omega)) ⟨fun _ _ => rfl, fun j hj => by omega⟩
    · refine ⟨up2 z 5 x (U 2 x), ?_, fun c hc => (up2_ne hc).trans (hp.1 c hc), fun j hj => ?_⟩
      · show g_L_copy_L51 2 64 5 64 (n + 1) (x : Int) z = _
        rw [g_L_copy_L51, if_neg (by omega), ld_t x rfl (by omega), bs, hp.1 2 (by omega), sw_t x rfl (by omega), bs, ck_t (by omega), bs]
        rfl
      · by_cases e : j = x
        · rw [e, up2_s]
        · rw [up2_n (by omega)]
          exact hp.2 j (by omega)
    · refine ⟨z, ?_, hp.1, hp.2⟩
      show g_L_copy_L51 2 64 5 64 (n + 1) ((64 : Nat) : Int) z = _
      rw [g_L_copy_L51, if_pos (by omega)]
  have k2 : ∀ (U : Blk) (j : Blk → Option Blk), ∃ T', g_L_copy_L26 1 28 4 28 j fu 0 U = j T' ∧ (∀ c, c ≠ 4 → T' c = U c) ∧ ∀ j, j < 28 → T' 4 j = U 1 j := fun U j => by
    refine loopSt (F := fun n (x : Nat) (z : Blk) => g_L_copy_L26 1 28 4 28 j n (x : Int) z) (P := fun x z => (∀ c, c ≠ 4 → z c = U c) ∧ ∀ j, j < x → z 4 j = U 1 j) (Q := fun o => ∃ T', o = j T' ∧ (∀ c, c ≠ 4 → T' c = U c) ∧ ∀ j, j < 28 → T' 4 j = U 1 j) 28 (fun n x z hx hp => ?_) (fun n z hp => ?_) fu 0 U (by omega) (fu_lt (by omega)) ⟨fun _ _ => rfl, fun j hj => by omega⟩
    · refine ⟨up2 z 4 x (U 1 x), ?_, fun c hc => (up2_ne hc).trans (hp.1 c hc), fun j hj => ?_⟩
      · show g_L_copy_L26 1 28 4 28 j (n + 1) (x : Int) z = _
        rw [g_L_copy_L26, if_neg (by omega), ld_t x rfl (by omega), bs, hp.1 1 (by omega), sw_t x rfl (by omega), bs, ck_t (by omega), bs]
        rfl
      · by_cases e : j = x
        · rw [e, up2_s]
        · rw [up2_n (by omega)]
          exact hp.2 j (by omega)
    · refine ⟨z, ?_, hp.1, hp.2⟩
      show g_L_copy_L26 1 28 4 28 j (n + 1) ((28 : Nat) : Int) z = _
      rw [g_L_copy_L26, if_pos (by omega)]
  have k1 : ∀ (U : Blk) (j : Blk → Option Blk), ∃ T', g_L_copy_L3 0 4 3 4 j fu 0 U = j T' ∧ (∀ c, c ≠ 3 → T' c = U c) ∧ ∀ j, j < 4 → T' 3 j = U 0 j := fun U j => by
    refine loopSt (F := fun n (x : Nat) (z : Blk) => g_L_copy_L3 0 4 3 4 j n (x : Int) z) (P := fun x z => (∀ c, c ≠ 3 → z c = U c) ∧ ∀ j, j < x → z 3 j = U 0 j) (Q := fun o => ∃ T', o = j T' ∧ (∀ c, c ≠ 3 → T' c = U c) ∧ ∀ j, j < 4 → T' 3 j = U 0 j) 4 (fun n x z hx hp => ?_) (fun n z hp => ?_) fu 0 U (by omega) (fu_lt (by omega)) ⟨fun _ _ => rfl, fun j hj => by omega⟩
    · refine ⟨up2 z 3 x (U 0 x), ?_, fun c hc => (up2_ne hc).trans (hp.1 c hc), fun j hj => ?_⟩
      · show g_L_copy_L3 0 4 3 4 j (n + 1) (x : Int) z = _
        rw [g_L_copy_L3, if_neg (by omega), ld_t x rfl (by omega), bs, hp.1 0 (by omega), sw_t x rfl (by omega), bs, ck_t (by omega), bs]
        rfl
      · by_cases e : j = x
        · rw [e, up2_s]
        · rw [up2_n (by omega)]
          exact hp.2 j (by omega)
    · refine ⟨z, ?_, hp.1, hp.2⟩
      show g_L_copy_L3 0 4 3 4 j (n + 1) ((4 : Nat) : Int) z = _
      rw [g_L_copy_L3, if_pos (by omega)]
  unfold g_L_copy
  rw [jp_t]
  obtain ⟨T1, a1, a2, a3⟩ := k1 T (fun σ2 => jp (fun (σ4 : Blk) => g_L_copy_L51 2 64 5 64 fu 0 σ4) fun j3 => g_L_copy_L26 1 28 4 28 j3 fu 0 σ2)
  rw [a1, jp_t]
  obtain ⟨T2, b1, b2, b3⟩ := k2 T1 (fun σ4 => g_L_copy_L51 2 64 5 64 fu 0 σ4)
  rw [b1]
  obtain ⟨T3, c1, c2, c3⟩ := k3 T2
  refine ⟨T3, c1, fun c h3 h4 h5 => by rw [c2 c h5, b2 c h4, a2 c h3], fun j hj => by rw [c2 3 (by omega), b2 3 (by omega)]; exact a3 j hj, fun j hj => by rw [c2 4 (by omega), b3 j hj, a2 1 (by omega)], fun j hj => by rw [c3 j hj, b2 2 (by omega), a2 2 (by omega)]⟩
