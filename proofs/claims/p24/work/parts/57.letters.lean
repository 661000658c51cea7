/-! PURE: the letters of a row, five bits each -/
theorem ishl_t {a b : Int} (k : Nat) (h : 0 ≤ a) (h2 : a.toNat * 2 ^ k < 2 ^ 31) (hs : ((Int32.ofInt b &&& 31).toBitVec.smod 32).toNat = k) : ishl a b = ((a.toNat * 2 ^ k : Nat) : Int) := by
  obtain ⟨n, rfl⟩ : ∃ n : Nat, a = (n : Int) := ⟨a.toNat, by omega⟩
  rw [Int.toNat_natCast] at h2 ⊢
  unfold ishl
  have e1 : Int32.ofInt (n : Int) = nI n := Int32.ofInt_eq_ofNat
  rw [e1, pk_shlN _ k hs (by omega), nI_toInt (by omega)]
theorem iorr_t {a b : Nat} (k : Nat) (ha : a < 2 ^ k) (h : b * 2 ^ k + a < 2 ^ 31) : iorr a ((b * 2 ^ k : Nat) : Int) = ((a + b * 2 ^ k : Nat) : Int) := by
  unfold iorr
  have e1 : Int32.ofInt (a : Int) = nI a := Int32.ofInt_eq_ofNat
  have e2 : Int32.ofInt ((b * 2 ^ k : Nat) : Int) = nI (b * 2 ^ k) := Int32.ofInt_eq_ofNat
  have e3 : nI a ||| nI (b * 2 ^ k) = nI (a + b * 2 ^ k) := by
    apply Int32.toBitVec_inj.mp
    apply BitVec.eq_of_toNat_eq
    rw [Int32.toBitVec_or, BitVec.toNat_or, pk_tn (by omega), pk_tn (by omega), pk_tn (by omega), Nat.or_comm, ← Nat.shiftLeft_eq, ← Nat.shiftLeft_add_eq_or_of_lt ha]
    omega
  rw [e1, e2, e3, nI_toInt (by omega)]
theorem sh5 {j : Nat} (hj : j < 6) : ((Int32.ofInt (5 * (j : Int)) &&& 31).toBitVec.smod 32).toNat = 5 * j := by
  rcases (show j = 0 ∨ j = 1 ∨ j = 2 ∨ j = 3 ∨ j = 4 ∨ j = 5 by omega) with rfl | rfl | rfl | rfl | rfl | rfl <;> decide
def q5 (j : Nat) : Int := ((2 ^ (5 * j) : Nat) : Int)
theorem pack_or {P t : Int} {j : Nat} (hj : j < 6) (hP : 0 ≤ P) (h : P < q5 j) (ht : 0 ≤ t ∧ t < 32) : iorr P (ishl t (5 * (j : Int))) = P + t * q5 j := by
  obtain ⟨n, rfl⟩ : ∃ n : Nat, P = (n : Int) := ⟨P.toNat, by omega⟩
  obtain ⟨m, rfl⟩ : ∃ m : Nat, t = (m : Int) := ⟨t.toNat, by omega⟩
  unfold q5 at h ⊢
  have h1 : n < 2 ^ (5 * j) := by omega
  have h2 : 2 ^ (5 * j) ≤ 2 ^ 25 := Nat.pow_le_pow_right (by decide) (by omega)
  have h3 : m * 2 ^ (5 * j) ≤ 31 * 2 ^ 25 := Nat.mul_le_mul (by omega) h2
  rw [ishl_t (5 * j) (by omega) (by rw [Int.toNat_natCast]; omega) (sh5 hj), Int.toNat_natCast, iorr_t (5 * j) h1 (by omega), Int.natCast_add, Int.natCast_mul]
theorem dig {P : Int} {i : Nat} (hi : i < 6) (hP : 0 ≤ P ∧ P < 1073741824) : iand (ishr P (5 * (i : Int))) 31 = P / q5 i % 32 := by
  have h1 : 0 ≤ P / q5 i ∧ P / q5 i ≤ P := by
    unfold q5
    rcases (show i = 0 ∨ i = 1 ∨ i = 2 ∨ i = 3 ∨ i = 4 ∨ i = 5 by omega) with rfl | rfl | rfl | rfl | rfl | rfl <;> simp <;> omega
  rw [ishr_t (5 * i) (by omega) (by omega) (sh5 hi)]
  exact iand31 h1.1 (by unfold q5 at h1; omega)
theorem pack_old {P t : Int} {i j : Nat} (hj : j < 6) (hi : i < j) (hP : 0 ≤ P) (h : P < q5 j) (ht : 0 ≤ t ∧ t < 32) : (P + t * q5 j) / q5 i % 32 = P / q5 i % 32 := by
  unfold q5 at *
  rcases (show j = 0 ∨ j = 1 ∨ j = 2 ∨ j = 3 ∨ j = 4 ∨ j = 5 by omega) with rfl | rfl | rfl | rfl | rfl | rfl
  · omega
  · rcases (show i = 0 by omega) with rfl
    simp at *
  · rcases (show i = 0 ∨ i = 1 by omega) with rfl | rfl <;> simp at * <;> omega
  · rcases (show i = 0 ∨ i = 1 ∨ i = 2 by omega) with rfl | rfl | rfl <;> simp at * <;> omega
  · rcases (show i = 0 ∨ i = 1 ∨ i = 2 ∨ i = 3 by omega) with rfl | rfl | rfl | rfl <;> simp at * <;> omega
  · rcases (show i = 0 ∨ i = 1 ∨ i = 2 ∨ i = 3 ∨ i = 4 by omega) with rfl | rfl | rfl | rfl | rfl <;> simp at * <;> omega
theorem pack_new {P t : Int} {j : Nat} (hj : j < 6) (hP : 0 ≤ P) (h : P < q5 j) (ht : 0 ≤ t ∧ t < 32) : (P + t * q5 j) / q5 j % 32 = t ∧ 0 ≤ P + t * q5 j ∧ P + t * q5 j < q5 (j + 1) := by
  unfold q5 at *
  rcases (show j = 0 ∨ j = 1 ∨ j = 2 ∨ j = 3 ∨ j = 4 ∨ j = 5 by omega) with rfl | rfl | rfl | rfl | rfl | rfl <;> simp at * <;> omega
def lt (s : Nat → Int) (r k : Nat) : Int := pt s r (5 + k / 6) / q5 (k % 6) % 32
/-- the parts that hold letters are within bounds -/
def LTR (s : Nat → Int) (r : Nat) : Prop := ∀ m, m < 7 → 0 ≤ pt s r (5 + m) ∧ pt s r (5 + m) < 1073741824
theorem x5_letterAt {σ : Blk} {r k : Nat} {a : Int} (hr : r < 30) (hk : k < 42) (ha : a = (k : Int)) (h : LTR (σ 1) r) : f_X5_letterAt σ r a = some (lt (σ 1) r k) := by
  subst ha
  unfold f_X5_letterAt
  have hq := h (k / 6) (by omega)
  rw [dv_t (by omega), bs, ck_t (by omega), bs, x5_part r (5 + k / 6) rfl (by omega) hr (by omega), bs, rm_t (by omega), bs]
  rw [show ((k : Int) % 6) = ((k % 6 : Nat) : Int) by omega, dig (by omega) hq]
  rfl

/-- the cells of a row's text: its length and its letters -/
def UT (r j : Nat) : Prop := j = 3 + (12 * r + 2) ∨ (3 + (12 * r + 5) ≤ j ∧ j < 3 + (12 * r + 12))
theorem q5_le {i j : Nat} (h : i ≤ j) : q5 i ≤ q5 j := by
  unfold q5
  have : 2 ^ (5 * i) ≤ 2 ^ (5 * j) := Nat.pow_le_pow_right (by decide) (by omega)
  omega
theorem x5_setText {σ : Blk} {r : Nat} (hr : r < 30) (hL : 0 ≤ σ 0 10 ∧ σ 0 10 ≤ 40) (ht : ∀ k : Nat, (k : Int) < σ 0 10 → 0 ≤ σ 8 k ∧ σ 8 k < 32) : ∃ σ', f_X5_setText σ r = some σ' ∧ (∀ c, c ≠ 1 → σ' c = σ c) ∧ (∀ j, ¬ UT r j → σ' 1 j = σ 1 j) ∧ pt (σ' 1) r 2 = σ 0 10 ∧ LTR (σ' 1) r ∧ ∀ k : Nat, (k : Int) < σ 0 10 → lt (σ' 1) r k = σ 8 k := by
  have key2 : ∀ s : Blk, ((∀ c, c ≠ 1 → s c = σ c) ∧ (∀ j, ¬ UT r j → s 1 j = σ 1 j) ∧ pt (s 1) r 2 = σ 0 10 ∧ ∀ m, m < 7 → pt (s 1) r (5 + m) = 0) → ∃ σ', f_X5_setText_L35 r fu 0 s = some σ' ∧ (∀ c, c ≠ 1 → σ' c = σ c) ∧ (∀ j, ¬ UT r j → σ' 1 j = σ 1 j) ∧ pt (σ' 1) r 2 = σ 0 10 ∧ LTR (σ' 1) r ∧ ∀ k : Nat, (k : Int) < σ 0 10 → lt (σ' 1) r k = σ 8 k := by
    intro s0 hp0
    have key := loopSt (F := fun n (x : Nat) (s : Blk) => f_X5_setText_L35 r n (x : Int) s) (P := fun x s => (∀ c, c ≠ 1 → s c = σ c) ∧ (∀ j, ¬ UT r j → s 1 j = σ 1 j) ∧ pt (s 1) r 2 = σ 0 10 ∧ (∀ m, m < 7 → 0 ≤ pt (s 1) r (5 + m) ∧ pt (s 1) r (5 + m) < q5 (min 6 (x - 6 * m))) ∧ ∀ k, k < x → lt (s 1) r k = σ 8 k) (Q := fun o => ∃ σ', o = some σ' ∧ (∀ c, c ≠ 1 → σ' c = σ c) ∧ (∀ j, ¬ UT r j → σ' 1 j = σ 1 j) ∧ pt (σ' 1) r 2 = σ 0 10 ∧ LTR (σ' 1) r ∧ ∀ k : Nat, (k : Int) < σ 0 10 → lt (σ' 1) r k = σ 8 k) (σ 0 10).toNat (fun n x s hx hp => ?_) (fun n s hp => ?_) fu 0 s0 (by omega) (fu_lt (by omega)) ⟨hp0.1, hp0.2.1, hp0.2.2.1, fun m hm => by rw [hp0.2.2.2 m hm]; exact ⟨Int.le_refl _, by rw [show min 6 (0 - 6 * m) = 0 by omega]; decide⟩, fun k hk => by omega⟩
    · exact key
    · obtain ⟨h1, h2, h3, h4, h5⟩ := hp
      have h6 := h4 (x / 6) (by omega)
      rw [show min 6 (x - 6 * (x / 6)) = x % 6 by omega] at h6
      have h7 := ht x (by omega)
      have h8 := pack_new (j := x % 6) (by omega) h6.1 h6.2 h7
      show ∃ s', f_X5_setText_L35 r (n + 1) (x : Int) s = f_X5_setText_L35 r n ((x + 1 : Nat) : Int) s' ∧ _
      refine ⟨up2 s 1 (3 + (12 * r + (5 + x / 6))) (pt (s 1) r (5 + x / 6) + σ 8 x * q5 (x % 6)), ?_, ?_, ?_, ?_, ?_, ?_⟩
      · rw [f_X5_setText_L35, h1 0 (by omega), if_neg (by omega), dv_t (by omega), bs, bs, ck_t (by omega), bs, x5_part r (5 + x / 6) rfl (by omega) hr (by omega), bs, ld_t x rfl (by omega), h1 8 (by omega), bs, rm_t (by omega), bs, bs]
        rw [show ((x : Int) % 6) = ((x % 6 : Nat) : Int) by omega, pack_or (by omega) h6.1 h6.2 h7, x5_setPart r (5 + x / 6) rfl (by omega) hr (by omega), bs, ck_t (by omega), bs]
        rfl
      · intro c hc
        rw [up2_ne hc]; exact h1 c hc
      · intro j hj
        rw [up2_n (by unfold UT at hj; omega)]
        exact h2 j hj
      · rw [up2_row, pt_us (by omega) (by omega), if_neg (by omega)]
        exact h3
      · intro m hm
        rw [up2_row, pt_us (by omega) (by omega)]
        by_cases e : m = x / 6
        · subst e
          rw [if_pos ⟨rfl, rfl⟩]
          refine ⟨h8.2.1, ?_⟩
          rw [show min 6 (x + 1 - 6 * (x / 6)) = x % 6 + 1 by omega]
          exact h8.2.2
        · rw [if_neg (by omega)]
          have h9 := h4 m hm
          refine ⟨h9.1, Int.lt_of_lt_of_le h9.2 (q5_le (by omega))⟩
      · intro k hk
        unfold lt
        rw [up2_row, pt_us (by omega) (by omega)]
        by_cases e : k / 6 = x / 6
        · rw [if_pos ⟨rfl, by omega⟩]
          by_cases e2 : k = x
          · subst e2
            exact h8.1
          · have h9 := pack_old (j := x % 6) (i := k % 6) (by omega) (by omega) h6.1 h6.2 h7
            rw [h9]
            have h10 := h5 k (by omega)
            unfold lt at h10
            rw [e] at h10
            exact h10
        · rw [if_neg (by omega)]
          exact h5 k (by omega)
    · obtain ⟨h1, h2, h3, h4, h5⟩ := hp
      refine ⟨s, ?_, h1, h2, h3, fun m hm => ⟨(h4 m hm).1, Int.lt_of_lt_of_le (h4 m hm).2 (Int.le_trans (q5_le (j := 6) (by omega)) (by decide))⟩, fun k hk => h5 k (by omega)⟩
      show f_X5_setText_L35 _ _ _ _ = _
      rw [f_X5_setText_L35, h1 0 (by omega), if_pos (by omega)]
  unfold f_X5_setText
  rw [x5_setPart r 2 rfl (by omega) hr (by omega), bs]
  dsimp only [jp]
  have key := loopSt (F := fun n (x : Nat) (s : Blk) => f_X5_setText_L12 r (fun σ3 => f_X5_setText_L35 r fu 0 σ3) n (x : Int) s) (P := fun x s => (∀ c, c ≠ 1 → s c = σ c) ∧ (∀ j, ¬ UT r j → s 1 j = σ 1 j) ∧ pt (s 1) r 2 = σ 0 10 ∧ ∀ m, m < x → pt (s 1) r (5 + m) = 0) (Q := fun o => ∃ σ', o = some σ' ∧ (∀ c, c ≠ 1 → σ' c = σ c) ∧ (∀ j, ¬ UT r j → σ' 1 j = σ 1 j) ∧ pt (σ' 1) r 2 = σ 0 10 ∧ LTR (σ' 1) r ∧ ∀ k : Nat, (k : Int) < σ 0 10 → lt (σ' 1) r k = σ 8 k) 7 (fun n x s hx hp => ?_) (fun n s hp => ?_) fu 0 (up2 σ 1 (3 + (12 * r + 2)) (σ 0 10)) (by omega) (fu_lt (by omega)) ⟨fun c hc => up2_ne hc, fun j hj => up2_n (by unfold UT at hj; omega), by rw [up2_row, pt_us (by omega) (by omega), if_pos ⟨rfl, rfl⟩], fun m hm => by omega⟩
  · exact key
  · obtain ⟨h1, h2, h3, h4⟩ := hp
    show ∃ s', f_X5_setText_L12 r _ (n + 1) (x : Int) s = f_X5_setText_L12 r _ n ((x + 1 : Nat) : Int) s' ∧ _
    rw [f_X5_setText_L12, if_neg (by omega), ck_t (by omega), bs, x5_setPart r (5 + x) rfl (by omega) hr (by omega), bs, ck_t (by omega), bs]
    refine ⟨_, rfl, fun c hc => by rw [up2_ne hc]; exact h1 c hc, fun j hj => by rw [up2_n (by unfold UT at hj; omega)]; exact h2 j hj, by rw [up2_row, pt_us (by omega) (by omega), if_neg (by omega)]; exact h3, fun m hm => ?_⟩
    rw [up2_row, pt_us (by omega) (by omega)]
    by_cases e : m = x
    · rw [if_pos ⟨rfl, by omega⟩]
    · rw [if_neg (by omega)]
      exact h4 m (by omega)
  · show ∃ σ', f_X5_setText_L12 _ _ _ _ _ = _ ∧ _
    rw [f_X5_setText_L12, if_pos (by omega)]
    exact key2 s hp
theorem x5_takeText {σ : Blk} {r : Nat} (hr : r < 30) (h2 : 0 ≤ pt (σ 1) r 2 ∧ pt (σ 1) r 2 ≤ 40) (h : LTR (σ 1) r) : ∃ σ', f_X5_takeText σ r = some σ' ∧ (∀ c, c ≠ 0 → c ≠ 8 → σ' c = σ c) ∧ (∀ j, j ≠ 10 → σ' 0 j = σ 0 j) ∧ σ' 0 10 = pt (σ 1) r 2 ∧ (∀ k : Nat, (k : Int) < pt (σ 1) r 2 → σ' 8 k = lt (σ 1) r k) ∧ ∀ k : Nat, pt (σ 1) r 2 ≤ (k : Int) → σ' 8 k = σ 8 k := by
  unfold f_X5_takeText
  rw [x5_part r 2 rfl (by omega) hr (by omega), bs]
  have key := loopSt (F := fun n (x : Nat) (s : Blk) => f_X5_takeText_L12 r n (x : Int) s) (P := fun x s => (∀ c, c ≠ 0 → c ≠ 8 → s c = σ c) ∧ (∀ j, j ≠ 10 → s 0 j = σ 0 j) ∧ s 0 10 = pt (σ 1) r 2 ∧ (∀ k, k < x → s 8 k = lt (σ 1) r k) ∧ ∀ k, x ≤ k → s 8 k = σ 8 k) (Q := fun o => ∃ σ', o = some σ' ∧ (∀ c, c ≠ 0 → c ≠ 8 → σ' c = σ c) ∧ (∀ j, j ≠ 10 → σ' 0 j = σ 0 j) ∧ σ' 0 10 = pt (σ 1) r 2 ∧ (∀ k : Nat, (k : Int) < pt (σ 1) r 2 → σ' 8 k = lt (σ 1) r k) ∧ ∀ k : Nat, pt (σ 1) r 2 ≤ (k : Int) → σ' 8 k = σ 8 k) (pt (σ 1) r 2).toNat (fun n x s hx hp => ?_) (fun n s hp => ?_) fu 0 (up2 σ 0 10 (pt (σ 1) r 2)) (by omega) (fu_lt (by omega)) ⟨fun c a b => up2_ne a, fun j hj => up2_n (by omega), up2_s, fun k hk => by omega, fun k _ => by rw [up2_ne (by omega)]⟩
  · exact key
  · obtain ⟨a1, a2, a3, a4, a5⟩ := hp
    show ∃ s', f_X5_takeText_L12 r (n + 1) (x : Int) s = f_X5_takeText_L12 r n ((x + 1 : Nat) : Int) s' ∧ _
    have e1 : s 1 = σ 1 := a1 1 (by omega) (by omega)
    have hl := x5_letterAt (σ := s) (r := r) (k := x) hr (by omega) rfl (by rw [e1]; exact h)
    rw [f_X5_takeText_L12, a3, if_neg (by omega), hl, bs, sw_t x rfl (by omega), bs, ck_t (by omega), bs]
    refine ⟨_, rfl, fun c b c1 => by rw [up2_ne c1]; exact a1 c b c1, fun j hj => by rw [up2_n (by omega)]; exact a2 j hj, by rw [up2_n (by omega)]; exact a3, fun k hk => ?_, fun k hk => by rw [up2_n (by omega)]; exact a5 k (by omega)⟩
    by_cases e : k = x
    · rw [e, up2_s, e1]
    · rw [up2_n (by omega)]
      exact a4 k (by omega)
  · obtain ⟨a1, a2, a3, a4, a5⟩ := hp
    refine ⟨s, ?_, a1, a2, a3, fun k hk => a4 k (by omega), fun k hk => a5 k (by omega)⟩
    show f_X5_takeText_L12 _ _ _ _ = _
    rw [f_X5_takeText_L12, a3, if_pos (by omega)]
