/-! PURE: write, fault *)  -/
theorem rel_wipe {σ τ : Blk} {B : Nat → Blk} {nb : Nat} (h : Rel σ B nb τ) : Rel (up2 σ 1 1 0) B nb (up2 τ 0 8 0) := by
  obtain ⟨hF, hR, hH, hS, p1, p2, p3, p4⟩ := h
  refine ⟨hF.congr (up2_n (by omega)) (up2_n (by omega)) (up2_ne (by omega)) (up2_ne (by omega)), ?_, hH.congr (up2_ne (by omega)) (fun i _ _ => ⟨by rw [up2_ne (by omega)], rfl⟩) (up2_n (by omega)) (up2_ne (by omega)), hS.congr (up2_ne (by omega)) (fun _ _ _ => rfl) (up2_ne (by omega)) (up2_ne (by omega)), by rw [up2_s, up2_s], by rw [up2_s]; omega, fun j hj => ?_, TL.of (up2_ne (by omega)) p4⟩
  · rw [up2_n (by omega), up2_ne (by omega)]
    exact hR
  · rw [up2_s] at hj
    omega
theorem ipad_n {σ π : Blk} {c : Nat} (h : c = 0 ∨ 6 ≤ c) : ipad σ π c = σ c := by
  unfold ipad
  rw [if_neg (by omega)]
theorem ipad_i {σ π : Blk} {c : Nat} (h : c < 5) : ipad σ π (c + 1) = π c := by
  unfold ipad
  rw [if_pos (by omega), Nat.add_sub_cancel]
theorem rel_ipad {σ τ π : Blk} {B : Nat → Blk} {nb : Nat} (h : Rel σ B nb τ) (h1 : π 0 1 = σ 1 1) (h2 : π 1 = σ 2) : Rel (ipad σ π) B nb τ := by
  obtain ⟨hF, hR, hH, hS, p1, p2, p3, p4⟩ := h
  have e0 : ipad σ π 0 = σ 0 := ipad_n (by omega)
  have e1 : ipad σ π 1 = π 0 := ipad_i (by omega)
  have e2 : ipad σ π 2 = π 1 := ipad_i (by omega)
  have e6 : ipad σ π 6 = σ 6 := ipad_n (by omega)
  have e7 : ipad σ π 7 = σ 7 := ipad_n (by omega)
  have e8 : ipad σ π 8 = σ 8 := ipad_n (by omega)
  exact ⟨hF.congr (by rw [e0]) (by rw [e0]) e7 e8, by rw [e0]; exact hR, hH.congr e6 (fun i _ _ => ⟨by rw [e7], rfl⟩) rfl rfl, hS.congr e8 (fun _ _ _ => rfl) rfl rfl, by rw [e1, h1]; exact p1, p2, fun j hj => by rw [e2, h2]; exact p3 j hj, p4⟩
theorem pad_read {σ τ : Blk} {B : Nat → Blk} {nb : Nat} (h : Rel σ B nb τ) : ∃ (len : Nat) (π' : Blk), τ 0 8 = (len : Int) ∧ Rel (ipad σ π') B nb τ ∧ ((∃ v : Nat, f_X2_read (opad σ) = some ((v : Int), π') ∧ f_X5_findFault τ = some (v : Int)) ∨ (f_X2_read (opad σ) = some (-1, π') ∧ f_X5_findFault τ = some (-6) ∧ GP (τ 7) len π')) := by
  obtain ⟨p1, p2, p3, p4⟩ := h.2.2.2.2
  obtain ⟨len, hlen⟩ : ∃ len : Nat, τ 0 8 = len := ⟨(τ 0 8).toNat, by omega⟩
  have h1 : opad σ 0 1 = (len : Int) := by
    show σ 1 1 = _
    rw [p1]
    exact hlen
  obtain ⟨π', ⟨a1, a2⟩, b⟩ := read_ok (π := opad σ) hlen (by omega) h1 (fun j hj => (p3 j (by omega)).1)
  exact ⟨len, π', hlen, rel_ipad h a1 a2, b⟩
theorem fault_ok {σ τ : Blk} {B : Nat → Blk} {nb : Nat} (h : Rel σ B nb τ) : ∃ v σ' B' nb', f_X4_fault σ B nb = some (v, σ', B', nb') ∧ f_X5_fault τ = some v ∧ Rel σ' B' nb' τ := by
  obtain ⟨len, π', hlen, hr, b⟩ := pad_read h
  unfold f_X4_fault f_X5_fault
  rcases b with ⟨v, b1, b2⟩ | ⟨b1, b2, -⟩
  · rw [b1, b2, cpW_t, bs, if_pos (show (v : Int) ≠ -1 by omega)]
    exact ⟨_, _, _, _, rfl, rfl, hr⟩
  · rw [b1, b2, cpW_t, bs, if_neg (show ¬ ((-1 : Int) ≠ -1) by decide)]
    exact ⟨_, _, _, _, rfl, rfl, hr⟩
theorem write_loop {len R : Nat} {c : Nat → Int} {π : Blk} (hR : R < 27) (h2 : π 0 2 = ((R + 1 : Nat) : Int)) (hend : (π 3 R).toNat + (π 4 R).toNat = len) (hP : ∀ i, i < R + 1 → PR c len π i) (hE : ∀ i, i < R → EN c π i) : ∀ (n i : Nat) (σ : Blk) (B : Nat → Blk) (nb : Nat) (τ : Blk), i ≤ R + 1 → R + 2 - i < n → Rel σ B nb τ → opad σ = π → τ 7 = c → τ 0 8 = (len : Int) → ∃ (w : Int) (σ' : Blk) (B' : Nat → Blk) (nb' : Nat) (τ' : Blk), (∀ j7, f_X4_write_L27 j7 n (i : Int) σ B nb = j7 w σ' B' nb') ∧ (∀ j3, f_X5_write_L26 j3 n (i : Int) ((stp π i : Nat) : Int) 1 τ = j3 w τ') ∧ Rel σ' B' nb' τ' := by
  intro n
  induction n with
  | zero => intro i σ B nb τ _ h; omega
  | succ n ih =>
    intro i σ B nb τ hi hn h hπ hc hl
    have h12 : σ 1 2 = ((R + 1 : Nat) : Int) := by rw [← h2, ← hπ]; rfl
    by_cases e : i = R + 1
    · subst e
      refine ⟨((R + 1 : Nat) : Int), σ, B, nb, τ, fun j7 => ?_, fun j3 => ?_, h⟩
      · rw [f_X4_write_L27, h12, if_pos (Int.le_refl _)]
      · have es : stp π (R + 1) = (π 3 R).toNat + (π 4 R).toNat + 1 := rfl
        rw [f_X5_write_L26, if_neg (show ¬ ((1 : Int) = 0) by decide), es, hend, hl, if_pos (by omega)]
    · subst hπ
      subst hc
      obtain ⟨r, σ1, B1, nb1, τ1, r01, a1, a2, a3, a4, a5, a6⟩ := write_row h hl (by omega) (hP i (by omega)) (by
        by_cases e2 : i = R
        · rw [e2]; exact Or.inr hend
        · exact Or.inl (hE i (by omega)))
      rcases r01 with rfl | rfl
      · obtain ⟨m, hm⟩ : ∃ m, n = m + 1 := ⟨n - 1, by omega⟩
        subst hm
        refine ⟨(i : Int), σ1, B1, nb1, τ1, fun j7 => ?_, fun j3 => ?_, a3⟩
        · rw [f_X4_write_L27, h12, if_neg (by omega), a1, bd4_t, if_pos rfl]
        · rw [a2 j3 (m + 1) i (by omega), f_X5_write_L26, if_pos rfl, Int.add_zero]
      · have ho : opad σ1 = opad σ := by
          funext x
          exact a4 (x + 1) (by omega)
        obtain ⟨w, σ', B', nb', τ', i1, i2, i3⟩ := ih (i + 1) σ1 B1 nb1 τ1 (by omega) (by omega) a3 ho a5 (by rw [a6]; exact hl)
        refine ⟨w, σ', B', nb', τ', fun j7 => ?_, fun j3 => ?_, i3⟩
        · rw [f_X4_write_L27, h12, if_neg (by omega), a1, bd4_t, if_neg (show ¬ ((1 : Int) = 0) by decide), ck_t (by omega), bs]
          exact i1 j7
        · rw [a2 j3 n i (by omega)]
          exact i2 j3
theorem write_ok {σ τ : Blk} {B : Nat → Blk} {nb : Nat} (h : Rel σ B nb τ) : ∃ v σ' B' nb' τ', f_X4_write σ B nb = some (v, σ', B', nb') ∧ f_X5_write τ = some (v, τ') ∧ Rel σ' B' nb' τ' := by
  obtain ⟨len, π', hlen, hr, b⟩ := pad_read h
  unfold f_X4_write f_X5_write
  rcases b with ⟨v, b1, b2⟩ | ⟨b1, b2, R, g1, g2, g3, g4, g5⟩
  · rw [b1, b2, cpW_t, bs, if_neg (show ¬ (v : Int) = -1 by omega), if_neg (show ¬ (v : Int) = -6 by omega)]
    exact ⟨_, _, _, _, _, rfl, rfl, hr⟩
  · obtain ⟨q, σ1, B1, nb1, τ1, e1, e2, e3, e4, e5, e6, r1, r2, r3, r4, r5, r6, -⟩ := rec_change hr
    have o : ∀ x, x < 5 → opad σ1 x = π' x := fun x hx => (r4 (x + 1) (by omega) (by omega)).trans (ipad_i hx)
    have t7 : τ1 7 = τ 7 := r5 7 (by omega) (by omega)
    obtain ⟨w, σ2, B2, nb2, τ2, w1, w2, w3⟩ := write_loop (c := τ 7) (π := opad σ1) (len := len) (R := R) g1 (by rw [o 0 (by omega)]; exact g2) (by rw [o 3 (by omega), o 4 (by omega)]; exact g3) (fun i hi => (g4 i hi).congr (fun x _ => by rw [o 2 (by omega), o 3 (by omega), o 4 (by omega)]; exact ⟨rfl, rfl, rfl⟩)) (fun i hi => (g5 i hi).congr (by rw [o 3 (by omega), o 4 (by omega)]; exact ⟨rfl, rfl⟩)) fu 0 σ1 B1 nb1 τ1 (by omega) (fu_lt (by omega)) r3 rfl t7 (by rw [r6 8 (by omega)]; exact hlen)
    rw [b1, b2, cpW_t, bs, if_pos rfl, if_pos rfl, gk_t e1 e2, r1, bd3_t, jp_t, r2, bs, jp_t]
    refine ⟨w, _, _, _, _, (w1 _).trans ?_, (w2 _).trans ?_, rel_wipe w3⟩
    · rw [pf_t]
    · rw [pf_t]
