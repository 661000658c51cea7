/-! PURE: put *)  -/
theorem first_z (f : Nat → Prop) : ∀ n : Nat, ∃ m, m ≤ n ∧ (∀ x, x < m → ¬ f x) ∧ (m = n ∨ f m)
  | 0 => ⟨0, Nat.le_refl 0, fun x h => absurd h (Nat.not_lt_zero x), Or.inl rfl⟩
  | n + 1 => by
    obtain ⟨m, h1, h2, h3⟩ := first_z f n
    rcases h3 with h3 | h3
    · by_cases h : f n
      · exact ⟨n, by omega, fun x hx => h2 x (by omega), Or.inr h⟩
      · refine ⟨n + 1, by omega, fun x hx => ?_, Or.inl rfl⟩
        by_cases e : x = n
        · rw [e]; exact h
        · exact h2 x (by omega)
    · exact ⟨m, by omega, h2, Or.inr h3⟩
theorem rel_sign {σ τ : Blk} {B : Nat → Blk} {nb len : Nat} {v : Int} (h : Rel σ B nb τ) (hl : τ 0 8 = (len : Int)) (h80 : len < 80) (hv : 0 ≤ v ∧ v ≤ 255) : Rel (up2 (up2 σ 2 len v) 1 1 ((len : Int) + 1)) B nb (up2 (up2 τ 7 len v) 0 8 ((len : Int) + 1)) := by
  obtain ⟨hF, hR, hH, hS, p1, p2, p3, p4⟩ := h
  refine ⟨hF.congr (by rw [up2_ne (by omega), up2_ne (by omega)]) (by rw [up2_ne (by omega), up2_ne (by omega)]) (by rw [up2_ne (by omega), up2_ne (by omega)]) (by rw [up2_ne (by omega), up2_ne (by omega)]), ?_, hH.congr (by rw [up2_ne (by omega), up2_ne (by omega)]) (fun i _ _ => ⟨by rw [up2_ne (by omega), up2_ne (by omega)], rfl⟩) (by rw [up2_n (by omega), up2_ne (by omega)]) (by rw [up2_ne (by omega), up2_ne (by omega)]), hS.congr (by rw [up2_ne (by omega), up2_ne (by omega)]) (fun _ _ _ => rfl) (by rw [up2_ne (by omega), up2_ne (by omega)]) (by rw [up2_ne (by omega), up2_ne (by omega)]), by rw [up2_s, up2_s], by rw [up2_s]; omega, fun j hj => ?_, TL.of (by rw [up2_ne (by omega), up2_ne (by omega)]) p4⟩
  · rw [up2_ne (by omega), up2_ne (by omega), up2_ne (by omega), up2_ne (by omega)]
    exact hR
  · rw [up2_s] at hj
    rw [up2_ne (σ := up2 σ 2 len v) (by omega), up2_ne (σ := up2 τ 7 len v) (by omega)]
    by_cases e : j = len
    · rw [e, up2_s, up2_s]
      exact ⟨rfl, hv⟩
    · rw [up2_n (by omega), up2_n (by omega)]
      exact p3 j (by omega)
theorem put_loop {nb : Nat} {B : Nat → Blk} {a : Int64} : ∀ (n x : Nat) (σ τ : Blk), x ≤ 8 → x < n → τ 0 8 + x ≤ 80 → Rel σ B nb τ → ∃ σ' τ', (∀ j4, f_X4_put_L34 a j4 n ((x : Int) - 1) σ B nb = j4 σ' B nb) ∧ (∀ j7, f_X5_put_L105 a j7 n ((x : Int) - 1) τ = j7 τ') ∧ Rel σ' B nb τ' := by
  intro n
  induction n with
  | zero => intro x σ τ h1 h2; omega
  | succ n ih =>
    intro x σ τ hx hn h80 h
    by_cases ex : x = 0
    · refine ⟨σ, τ, fun j4 => ?_, fun j7 => ?_, h⟩
      · rw [f_X4_put_L34, if_pos (by omega)]
      · rw [f_X5_put_L105, if_pos (by omega)]
    · obtain ⟨y, hy⟩ : ∃ y : Nat, x = y + 1 := ⟨x - 1, by omega⟩
      subst hy
      have exy : ((y + 1 : Nat) : Int) - 1 = (y : Int) := by omega
      obtain ⟨p1, p2, -, -⟩ := h.2.2.2.2
      obtain ⟨len, hlen⟩ : ∃ len : Nat, τ 0 8 = len := ⟨(τ 0 8).toNat, by omega⟩
      have e1 : σ 1 1 = len := by rw [p1]; exact hlen
      have hs := sg_rng a y
      have hm : l2i (lushr a (8 * (y : Int)) &&& 255) = sg a y := by
        rw [l2i_255, un_ushr (by omega)]
        rfl
      obtain ⟨σ', τ', i1, i2, i3⟩ := ih y _ _ (by omega) (by omega) (by rw [up2_s]; omega) (rel_sign h hlen (by omega) hs)
      refine ⟨σ', τ', fun j4 => ?_, fun j7 => ?_, i3⟩
      · rw [exy, f_X4_put_L34, if_neg (by omega), x4_signOf (by omega), bs, e1, sw_t len rfl (by omega), bs, up2_ne (show (1 : Nat) ≠ 2 by omega), e1, ck_t (a := (len : Int) + 1) (by omega), bs, pf_t, ck_t (a := (y : Int) + -1) (by omega), bs]
        exact i1 j4
      · rw [exy, f_X5_put_L105, if_neg (by omega), hm, hlen, sw_t len rfl (by omega), bs, up2_ne (show (0 : Nat) ≠ 7 by omega), hlen, ck_t (a := (len : Int) + 1) (by omega), bs, pf_t, ck_t (a := (y : Int) + -1) (by omega), bs]
        exact i2 j7
def gs (a : Int64) (x : Nat) : Prop := 33 ≤ sg a x ∧ sg a x ≤ 126
theorem un_and255 {x : Int64} : un (x &&& 255) = un x % 256 := by
  rw [and255]
  show (BitVec.ofNat 64 (un x % 256)).toNat = _
  rw [BitVec.toNat_ofNat]
  omega
theorem put_scanM {a : Int64} {m : Nat} (hm : m ≤ 8) (h1 : ∀ x, x < m → ¬ sg a x = 0) (h2 : m = 8 ∨ sg a m = 0) : ∃ (y : Int64) (f : Int), (∀ j, f_X5_put_L8 j fu 0 a 1 = j m y f) ∧ un y = un a / 2 ^ (8 * m) ∧ (f = 0 ∨ f = 1) ∧ (f = 1 ↔ ∀ x, x < m → gs a x) := by
  have key := loopSt (F := fun n (x : Nat) (s : Int64 × Int) => fun j : Int → Int64 → Int → Option (Int × Blk) => f_X5_put_L8 j n (x : Int) s.1 s.2) (P := fun x s => un s.1 = un a / 2 ^ (8 * x) ∧ (s.2 = 0 ∨ s.2 = 1) ∧ (s.2 = 1 ↔ ∀ i, i < x → gs a i)) (Q := fun o => ∃ (y : Int64) (f : Int), (∀ j, o j = j m y f) ∧ un y = un a / 2 ^ (8 * m) ∧ (f = 0 ∨ f = 1) ∧ (f = 1 ↔ ∀ x, x < m → gs a x)) m (fun n x s hx hp => ?_) (fun n s hp => ?_) fu 0 (a, 1) (by omega) (fu_lt (by omega)) ⟨by simp, Or.inr rfl, fun _ i hi => absurd hi (Nat.not_lt_zero i), fun _ => rfl⟩
  · exact key
  · obtain ⟨y, f⟩ := s
    have p1 : un y = un a / 2 ^ (8 * x) := hp.1
    have p2 : f = 0 ∨ f = 1 := hp.2.1
    have p3 : f = 1 ↔ ∀ i, i < x → gs a i := hp.2.2
    have hu : un (y &&& 255) = un a / 2 ^ (8 * x) % 256 := by rw [un_and255, p1]
    have hsg : sg a x = ((un (y &&& 255) : Nat) : Int) := by rw [hu]; rfl
    have hne : ¬ lcmp (y &&& 255) 0 = 0 := fun z => h1 x hx (by rw [hsg, lcmp_0.mp z]; rfl)
    have hl : l2i (y &&& 255) = sg a x := by rw [l2i_255, p1]; rfl
    have hstep : ∀ (j : Int → Int64 → Int → Option (Int × Blk)) (g : Int), Option.bind (ck ((x : Int) + 1)) (fun v20 => f_X5_put_L8 j n v20 (lushr y 8) g) = f_X5_put_L8 j n ((x + 1 : Nat) : Int) (lushr y 8) g := fun j g => by
      rw [ck_t (by omega), bs]
      rfl
    have bad : ∀ hb : ¬ (f = 1 ∧ gs a x), (∀ j, f_X5_put_L8 j (n + 1) (x : Int) y f = f_X5_put_L8 j n ((x + 1 : Nat) : Int) (lushr y 8) 0) → ∃ s' : Int64 × Int, (fun j => f_X5_put_L8 j (n + 1) (x : Int) y f) = (fun j : Int → Int64 → Int → Option (Int × Blk) => f_X5_put_L8 j n ((x + 1 : Nat) : Int) s'.1 s'.2) ∧ un s'.1 = un a / 2 ^ (8 * (x + 1)) ∧ (s'.2 = 0 ∨ s'.2 = 1) ∧ (s'.2 = 1 ↔ ∀ i, i < x + 1 → gs a i) := fun hb he =>
      ⟨(lushr y 8, 0), funext he, un_step p1, Or.inl rfl, fun z => absurd (show (0 : Int) = 1 from z) (by decide), fun z => absurd ⟨p3.mpr (fun i hi => z i (by omega)), z x (by omega)⟩ hb⟩
    show ∃ s' : Int64 × Int, (fun j => f_X5_put_L8 j (n + 1) (x : Int) y f) = (fun j : Int → Int64 → Int → Option (Int × Blk) => f_X5_put_L8 j n ((x + 1 : Nat) : Int) s'.1 s'.2) ∧ un s'.1 = un a / 2 ^ (8 * (x + 1)) ∧ (s'.2 = 0 ∨ s'.2 = 1) ∧ (s'.2 = 1 ↔ ∀ i, i < x + 1 → gs a i)
    by_cases e0 : f = 0
    · refine bad (fun z => by omega) (fun j => ?_)
      rw [f_X5_put_L8, if_neg (by omega), if_neg hne, jp_t, if_pos e0]
      exact hstep _ _
    · by_cases g1 : sg a x < 33
      · refine bad (fun z => by unfold gs at z; omega) (fun j => ?_)
        rw [f_X5_put_L8, if_neg (by omega), if_neg hne, jp_t, if_neg e0, hl, x5_within, bs, if_pos g1, if_pos rfl]
        exact hstep _ _
      · by_cases g2 : 126 < sg a x
        · refine bad (fun z => by unfold gs at z; omega) (fun j => ?_)
          rw [f_X5_put_L8, if_neg (by omega), if_neg hne, jp_t, if_neg e0, hl, x5_within, bs, if_neg g1, if_pos g2, if_pos rfl]
          exact hstep _ _
        · refine ⟨(lushr y 8, 1), funext fun j => ?_, un_step p1, Or.inr rfl, fun _ i hi => ?_, fun _ => rfl⟩
          · rw [f_X5_put_L8, if_neg (by omega), if_neg hne, jp_t, if_neg e0, hl, x5_within, bs, if_neg g1, if_neg g2, if_neg (show ¬ ((1 : Int) = 0) by decide)]
            exact hstep _ _
          · by_cases e : i = x
            · rw [e]; exact ⟨by omega, by omega⟩
            · exact p3.mp (by omega) i (by omega)
  · obtain ⟨y, f⟩ := s
    have p1 : un y = un a / 2 ^ (8 * m) := hp.1
    refine ⟨y, f, fun j => ?_, hp⟩
    show f_X5_put_L8 j (n + 1) (m : Int) y f = _
    rw [f_X5_put_L8]
    by_cases e8 : m = 8
    · rw [if_pos (by omega)]
    · have h3 : sg a m = 0 := h2.resolve_left e8
      have h4 : sg a m = ((un (y &&& 255) : Nat) : Int) := by rw [un_and255, p1]; rfl
      rw [if_neg (by omega), if_pos (lcmp_0.mpr (by omega))]
theorem put_scanX {a : Int64} {m : Nat} (hm : m ≤ 8) (h1 : ∀ x, x < m → ¬ sg a x = 0) (h2 : m = 8 ∨ sg a m = 0) : ((∀ x, x < m → gs a x) ∧ ∀ j, f_X4_signsIn_L2 a j fu 0 = j m) ∨ (¬ (∀ x, x < m → gs a x) ∧ ∀ j, f_X4_signsIn_L2 a j fu 0 = some 0) := by
  obtain ⟨b, b1, b2, b3⟩ := first_z (fun x => ¬ gs a x) m
  have step : ∀ (j : Int → Option Int) (n x : Nat), x < b → f_X4_signsIn_L2 a j (n + 1) (x : Int) = f_X4_signsIn_L2 a j n ((x + 1 : Nat) : Int) := fun j n x hx => by
    have g : gs a x := Classical.not_not.mp (b2 x hx)
    unfold gs at g
    rw [f_X4_signsIn_L2, if_neg (by omega), x4_signOf (by omega), bs, if_neg (h1 x (by omega)), bs, if_neg (by omega), if_pos (by omega), ck_t (by omega), bs]
    rfl
  by_cases hb : b = m
  · subst hb
    refine Or.inl ⟨fun x hx => Classical.not_not.mp (b2 x hx), fun j => ?_⟩
    refine loopUp (F := fun n x => f_X4_signsIn_L2 a j n (x : Int)) b (step j) (fun n => ?_) fu 0 (by omega) (fu_lt (by omega))
    show f_X4_signsIn_L2 a j (n + 1) (b : Int) = _
    rw [f_X4_signsIn_L2]
    by_cases e8 : b = 8
    · rw [if_pos (by omega)]
    · rw [if_neg (by omega), x4_signOf (by omega), bs, if_pos (h2.resolve_left e8)]
  · have hg : ¬ gs a b := b3.resolve_left hb
    refine Or.inr ⟨fun z => hg (z b (by omega)), fun j => ?_⟩
    refine loopUp (F := fun n x => f_X4_signsIn_L2 a j n (x : Int)) b (step j) (fun n => ?_) fu 0 (by omega) (fu_lt (by omega))
    show f_X4_signsIn_L2 a j (n + 1) (b : Int) = _
    unfold gs at hg
    rw [f_X4_signsIn_L2, if_neg (by omega), x4_signOf (by omega), bs, if_neg (h1 b (by omega)), bs]
    by_cases g : sg a b < 33
    · rw [if_pos g]
    · rw [if_neg g, if_neg (by omega)]
theorem x4_signsIn {a : Int64} {m : Nat} (hm : m ≤ 8) (h1 : ∀ x, x < m → ¬ sg a x = 0) (h2 : m = 8 ∨ sg a m = 0) : ((∀ x, x < m → gs a x) ∧ un a / 2 ^ (8 * m) = 0 ∧ f_X4_signsIn a = some (m : Int)) ∨ (¬ ((∀ x, x < m → gs a x) ∧ un a / 2 ^ (8 * m) = 0) ∧ f_X4_signsIn a = some 0) := by
  unfold f_X4_signsIn
  rw [jp_t]
  rcases put_scanX hm h1 h2 with ⟨g, e⟩ | ⟨g, e⟩
  · rw [e, jp_t]
    by_cases e8 : m = 8
    · refine Or.inl ⟨g, ?_, ?_⟩
      · rw [e8]
        exact Nat.div_eq_of_lt (un_lt a)
      · rw [if_pos (by omega)]
        exact if_pos rfl
    · rw [if_neg (show ¬ (8 : Int) ≤ m by omega)]
      have hu : un (lushr a (8 * (m : Int))) = un a / 2 ^ (8 * m) := un_ushr (by omega)
      by_cases ez : un a / 2 ^ (8 * m) = 0
      · refine Or.inl ⟨g, ez, ?_⟩
        rw [if_pos (lcmp_0.mpr (hu.trans ez))]
        exact if_pos rfl
      · refine Or.inr ⟨fun z => ez z.2, ?_⟩
        rw [if_neg (fun z => ez (hu.symm.trans (lcmp_0.mp z)))]
        exact if_neg (show ¬ ((1 : Int) = 0) by decide)
  · exact Or.inr ⟨fun z => g z.1, e _⟩
theorem put_ok {σ τ : Blk} {B : Nat → Blk} {nb : Nat} (h : Rel σ B nb τ) (a : Int64) : ∃ v σ' B' nb' τ', f_X4_put σ B nb a = some (v, σ', B', nb') ∧ f_X5_put τ a = some (v, τ') ∧ Rel σ' B' nb' τ' := by
  obtain ⟨m, hm, h1, h2⟩ := first_z (fun x => sg a x = 0) 8
  obtain ⟨p1, p2, -, -⟩ := h.2.2.2.2
  obtain ⟨y, f, y1, y2, y3, y4⟩ := put_scanM hm h1 h2
  unfold f_X4_put f_X5_put
  rw [jp_t, y1]
  rcases x4_signsIn hm h1 h2 with ⟨g1, g2, e⟩ | ⟨g1, e⟩
  · have f1 : f = 1 := y4.mpr g1
    rw [e, bs]
    by_cases m0 : m = 0
    · rw [if_neg (show ¬ (m : Int) ≠ 0 by omega), if_pos (show (m : Int) = 0 by omega)]
      exact ⟨_, _, _, _, _, rfl, rfl, h⟩
    · rw [if_pos (show (m : Int) ≠ 0 by omega), if_neg (show ¬ (m : Int) = 0 by omega), if_neg (show ¬ f = 0 by omega), if_pos (lcmp_0.mpr (y2.trans g2)), p1, ck_t (a := τ 0 8 + (m : Int)) (by omega), bs, bs]
      by_cases g : τ 0 8 + (m : Int) ≤ 80
      · obtain ⟨σ', τ', l1, l2, l3⟩ := put_loop (a := a) fu m σ τ (by omega) (fu_lt (by omega)) g h
        rw [if_pos g, if_pos g, ck_t (a := (m : Int) - 1) (by omega), bs, bs, jp_t, jp_t, l1, l2, l3.2.2.2.2.1]
        exact ⟨_, _, _, _, _, rfl, rfl, l3⟩
      · rw [if_neg g, if_neg g]
        exact ⟨_, _, _, _, _, rfl, rfl, h⟩
  · rw [e, bs, if_neg (show ¬ ((0 : Int) ≠ 0) by decide)]
    by_cases m0 : (m : Int) = 0
    · rw [if_pos m0]
      exact ⟨_, _, _, _, _, rfl, rfl, h⟩
    rw [if_neg m0]
    by_cases f0 : f = 0
    · rw [if_pos f0]
      exact ⟨_, _, _, _, _, rfl, rfl, h⟩
    rw [if_neg f0, if_neg (fun z => g1 ⟨y4.mp (by omega), y2.symm.trans (lcmp_0.mp z)⟩)]
    exact ⟨_, _, _, _, _, rfl, rfl, h⟩
