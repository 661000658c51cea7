/-! PURE: the law's table of things beside the reference's places *)  -/
theorem iand7 {a : Int} (h : 0 ≤ a) (ha : a ≤ 2147483647) : iand a 7 = a % 8 := iand_t 7 3 h ha (by decide) (by decide)
theorem ishr16 {a : Int} (h : 0 ≤ a) (ha : a ≤ 2147483647) : ishr a 16 = a / 65536 := ishr_t 16 h ha (by decide)
theorem ishr14 {a : Int} (h : 0 ≤ a) (ha : a ≤ 2147483647) : ishr a 14 = a / 16384 := ishr_t 14 h ha (by decide)
theorem ishr11 {a : Int} (h : 0 ≤ a) (ha : a ≤ 2147483647) : ishr a 11 = a / 2048 := ishr_t 11 h ha (by decide)
theorem ishr5 {a : Int} (h : 0 ≤ a) (ha : a ≤ 2147483647) : ishr a 5 = a / 32 := ishr_t 5 h ha (by decide)
/-- what a thing of the law's is in the reference -/
def mv (v : Int) : Int := mk (v / 16384 % 4) (v / 2048 % 8) (v / 32 % 64) (v % 32)
/-- the law's own number of a thing -/
def ev (p k r m l : Int) : Int := 65536 * p + 16384 * k + 2048 * r + 32 * m + l
theorem ev_dec {p k r m l : Int} (hp : 0 ≤ p ∧ p < 400) (hk : 1 ≤ k ∧ k ≤ 3) (hr : 0 ≤ r ∧ r < 8) (hm : 0 ≤ m ∧ m < 64) (hl : 0 ≤ l ∧ l < 32) : (0 ≤ ev p k r m l ∧ ev p k r m l < 26214400) ∧ ev p k r m l / 65536 = p ∧ ev p k r m l / 16384 % 4 = k ∧ ev p k r m l / 2048 % 8 = r ∧ ev p k r m l / 32 % 64 = m ∧ ev p k r m l % 32 = l := by
  unfold ev
  omega
theorem ev_mv {p k r m l : Int} (hp : 0 ≤ p ∧ p < 400) (hk : 1 ≤ k ∧ k ≤ 3) (hr : 0 ≤ r ∧ r < 8) (hm : 0 ≤ m ∧ m < 64) (hl : 0 ≤ l ∧ l < 32) : mv (ev p k r m l) = mk k r m l := by
  obtain ⟨-, -, h1, h2, h3, h4⟩ := ev_dec hp hk hr hm hl
  unfold mv
  rw [h1, h2, h3, h4]
theorem mv_dec {v : Int} (h : 0 ≤ v) : kd (mv v) = v / 16384 % 4 ∧ rwo (mv v) = v / 2048 % 8 ∧ nro (mv v) = v / 32 % 64 ∧ lto (mv v) = v % 32 ∧ 0 ≤ mv v := by
  have key : ∀ k r n l : Int, 0 ≤ k ∧ k < 4 → 0 ≤ r ∧ r < 8 → 0 ≤ n ∧ n < 64 → 0 ≤ l → kd (mk k r n l) = k ∧ rwo (mk k r n l) = r ∧ nro (mk k r n l) = n ∧ lto (mk k r n l) = l ∧ 0 ≤ mk k r n l := by
    intro k r n l hk hr hn hl
    unfold kd rwo nro lto mk
    omega
  exact key _ _ _ _ (by omega) (by omega) (by omega) (by omega)
theorem l_cells {v : Int} (h : 0 ≤ v ∧ v < 26214400) (hk : 1 ≤ v / 16384 % 4) : g_L_cells v = some (cl (mv v)) := by
  obtain ⟨h1, -, -, h4, -⟩ := mv_dec h.1
  unfold g_L_cells nm
  dsimp only
  rw [ishr14 h.1 (by omega), iand3 (by omega) (by omega), iand31 h.1 (by omega)]
  unfold cl
  rw [h1, h4]
  by_cases e3 : v / 16384 % 4 = 3
  · rw [if_neg (show ¬ v / 16384 % 4 ≠ 3 by omega), if_neg (by omega), if_neg (by omega), if_pos e3]
  · rw [if_pos e3, ck_t (by omega), bs]
    by_cases e1 : v / 16384 % 4 = 1
    · rw [if_pos e1]
      congr 1
      omega
    · rw [if_neg e1, if_pos (by omega)]
      congr 1
      omega
/-- the table t of the law, its count in q, beside the places of s -/
def TT (T : Blk) (q t : Nat) (s : Nat → Int) (n : Nat) : Prop := (T q 3 = n ∧ n ≤ 64) ∧ (∀ k, k < n → (0 ≤ T t k ∧ T t k < 26214400) ∧ 1 ≤ T t k / 16384 % 4 ∧ s (363 + (T t k / 65536).toNat) = mv (T t k)) ∧ (∀ k k', k < n → k' < n → T t k / 65536 = T t k' / 65536 → k = k') ∧ ∀ p, p < 400 → s (363 + p) ≠ 0 → ∃ k, k < n ∧ T t k / 65536 = p
theorem TT.nz {T : Blk} {q t : Nat} {s : Nat → Int} {n k : Nat} (h : TT T q t s n) (hk : k < n) : s (363 + (T t k / 65536).toNat) ≠ 0 := by
  obtain ⟨h1, h2, h3⟩ := h.2.1 k hk
  rw [h3]
  have := mv_dec h1.1
  intro z
  rw [z] at this
  have h4 : kd 0 = 0 := rfl
  omega
theorem TT.congr {T T' : Blk} {q t q' t' : Nat} {s s' : Nat → Int} {n : Nat} (h : TT T q t s n) (hq : T' q' 3 = T q 3) (ht : ∀ k, k < 64 → T' t' k = T t k) (hs : ∀ p, p < 400 → s' (363 + p) = s (363 + p)) : TT T' q' t' s' n := by
  obtain ⟨h1, h2, h3, h4⟩ := h
  refine ⟨⟨hq.trans h1.1, h1.2⟩, fun k hk => ?_, fun k k' hk hk' he => ?_, fun p hp h0 => ?_⟩
  · obtain ⟨a1, a2, a3⟩ := h2 k hk
    rw [ht k (by omega), hs _ (by omega)]
    exact ⟨a1, a2, a3⟩
  · rw [ht k (by omega), ht k' (by omega)] at he
    exact h3 k k' hk hk' he
  · rw [hs p hp] at h0
    obtain ⟨k, a1, a2⟩ := h4 p hp h0
    exact ⟨k, a1, by rw [ht k (by omega)]; exact a2⟩
/-- the value of a place, as a sum over the table -/
theorem TT.at {T : Blk} {q t : Nat} {s : Nat → Int} {n p : Nat} (h : TT T q t s n) (hp : p < 400) {g : Int → Int} (g0 : g 0 = 0) : g (s (363 + p)) = sumN (fun k => if T t k / 65536 = p then g (mv (T t k)) else 0) n := by
  by_cases h0 : s (363 + p) = 0
  · rw [h0, g0]
    have e : sumN (fun k => if T t k / 65536 = (p : Int) then g (mv (T t k)) else 0) n = sumN (fun _ => 0) n := sumN_congr (fun k hk => if_neg (fun z => h.nz hk (by rw [z, Int.toNat_natCast]; exact h0)))
    rw [e, sumN_const]
    simp
  · obtain ⟨k, hk, he⟩ := h.2.2.2 p hp h0
    refine (sumN_single hk (fun i hi => ?_)).symm
    have hk3 := (h.2.1 k hk).2.2
    rw [he, Int.toNat_natCast] at hk3
    by_cases e : i = k
    · rw [if_pos e, e, if_pos he, hk3]
    · rw [if_neg e, if_neg (fun z => e (h.2.2.1 i k hi hk (z.trans he.symm)))]
theorem TT.all {T : Blk} {q t : Nat} {s : Nat → Int} {n : Nat} (h : TT T q t s n) {g : Int → Int} (g0 : g 0 = 0) : sumN (fun k => g (mv (T t k))) n = sumN (fun p => g (s (363 + p))) 400 := by
  rw [sumN_congr (fun p hp => h.at hp g0), sumN_swap]
  refine sumN_congr (fun k hk => ?_)
  obtain ⟨h1, -⟩ := h.2.1 k hk
  exact (sumN_single (k := (T t k / 65536).toNat) (by omega) (fun p hp => by
    by_cases e : p = (T t k / 65536).toNat
    · rw [if_pos e, if_pos (by omega)]
    · rw [if_neg e, if_neg (by omega)])).symm
theorem TT.page {T : Blk} {q t : Nat} {s : Nat → Int} {n p : Nat} (h : TT T q t s n) (hp : p < 10) {g : Int → Int} (g0 : g 0 = 0) : sumN (fun k => if T t k / 65536 / 40 = p then g (mv (T t k)) else 0) n = sumN (fun j => g (s (363 + (40 * p + j)))) 40 := by
  rw [sumN_congr (fun j hj => h.at (show 40 * p + j < 400 by omega) g0), sumN_swap]
  refine sumN_congr (fun k hk => ?_)
  obtain ⟨h1, -⟩ := h.2.1 k hk
  by_cases e : T t k / 65536 / 40 = p
  · rw [if_pos e]
    refine (sumN_single (k := (T t k / 65536 % 40).toNat) (by omega) (fun j hj => ?_)).symm
    by_cases e2 : j = (T t k / 65536 % 40).toNat
    · rw [if_pos e2, if_pos (by omega)]
    · rw [if_neg e2, if_neg (by omega)]
  · rw [if_neg e]
    have e3 : sumN (fun j => if T t k / 65536 = ((40 * p + j : Nat) : Int) then g (mv (T t k)) else 0) 40 = sumN (fun _ => 0) 40 := sumN_congr (fun j hj => if_neg (by omega))
    rw [e3, sumN_const]
    simp
/-! a thing added, a thing dropped -/
theorem or5 {p k r m l : Nat} (hp : p < 400) (hk : k ≤ 3) (hr : r < 8) (hm : m < 64) (hl : l < 32) : iorr (iorr (iorr (iorr (ishl (p : Int) 16) (ishl (k : Int) 14)) (ishl (r : Int) 11)) (ishl (m : Int) 5)) (l : Int) = ev p k r m l := by
  have s1 : ishl (p : Int) 16 = ((p * 2 ^ 16 : Nat) : Int) := ishl_t 16 (by omega) (by rw [Int.toNat_natCast]; omega) (by decide)
  have s2 : ishl (k : Int) 14 = ((k * 2 ^ 14 : Nat) : Int) := ishl_t 14 (by omega) (by rw [Int.toNat_natCast]; omega) (by decide)
  have s3 : ishl (r : Int) 11 = ((r * 2 ^ 11 : Nat) : Int) := ishl_t 11 (by omega) (by rw [Int.toNat_natCast]; omega) (by decide)
  have s4 : ishl (m : Int) 5 = ((m * 2 ^ 5 : Nat) : Int) := ishl_t 5 (by omega) (by rw [Int.toNat_natCast]; omega) (by decide)
  have oc : ∀ {a b : Int}, iorr a b = iorr b a := fun {a b} => by
    unfold iorr
    rw [Int32.or_comm]
  have o1 : iorr ((p * 2 ^ 16 : Nat) : Int) ((k * 2 ^ 14 : Nat) : Int) = ((k * 2 ^ 14 + p * 2 ^ 16 : Nat) : Int) := by
    rw [oc]
    exact iorr_t 16 (by omega) (by omega)
  have o2 : iorr ((k * 2 ^ 14 + p * 2 ^ 16 : Nat) : Int) ((r * 2 ^ 11 : Nat) : Int) = ((r * 2 ^ 11 + (k + p * 4) * 2 ^ 14 : Nat) : Int) := by
    rw [oc, show k * 2 ^ 14 + p * 2 ^ 16 = (k + p * 4) * 2 ^ 14 by omega]
    exact iorr_t 14 (by omega) (by omega)
  have o3 : iorr ((r * 2 ^ 11 + (k + p * 4) * 2 ^ 14 : Nat) : Int) ((m * 2 ^ 5 : Nat) : Int) = ((m * 2 ^ 5 + (r + (k + p * 4) * 8) * 2 ^ 11 : Nat) : Int) := by
    rw [oc, show r * 2 ^ 11 + (k + p * 4) * 2 ^ 14 = (r + (k + p * 4) * 8) * 2 ^ 11 by omega]
    exact iorr_t 11 (by omega) (by omega)
  have o4 : iorr ((m * 2 ^ 5 + (r + (k + p * 4) * 8) * 2 ^ 11 : Nat) : Int) (l : Int) = ((l + (m + (r + (k + p * 4) * 8) * 64) * 2 ^ 5 : Nat) : Int) := by
    rw [oc, show m * 2 ^ 5 + (r + (k + p * 4) * 8) * 2 ^ 11 = (m + (r + (k + p * 4) * 8) * 64) * 2 ^ 5 by omega]
    exact iorr_t 5 (by omega) (by omega)
  rw [s1, s2, s3, s4, o1, o2, o3, o4]
  unfold ev
  omega
theorem TT.add {T : Blk} {q t : Nat} {s : Nat → Int} {n : Nat} (h : TT T q t s n) (hqt : q ≠ t) (hn : n < 64) {p : Nat} (hp : p < 400) {k r m l : Int} (hk : 1 ≤ k ∧ k ≤ 3) (hr : 0 ≤ r ∧ r < 8) (hm : 0 ≤ m ∧ m < 64) (hl : 0 ≤ l ∧ l < 32) (h0 : s (363 + p) = 0) : ∃ T', g_L_add T p k r m l t 64 q 4 = some T' ∧ TT T' q t (us s (363 + p) (mk k r m l)) (n + 1) ∧ (∀ c, c ≠ q → c ≠ t → T' c = T c) ∧ ∀ j, j ≠ 3 → T' q j = T q j := by
  obtain ⟨⟨h1, h2⟩, h3, h4, h5⟩ := id h
  obtain ⟨d1, d2, d3, -⟩ := ev_dec (p := (p : Int)) ⟨by omega, by omega⟩ hk hr hm hl
  have d4 := ev_mv (p := (p : Int)) ⟨by omega, by omega⟩ hk hr hm hl
  have hv : ∀ i, i ≠ n → up2 (up2 T q 3 ((n : Int) + 1)) t n (ev p k r m l) t i = T t i := fun i hi => by rw [up2_n (by omega), up2_ne (Ne.symm hqt)]
  refine ⟨up2 (up2 T q 3 ((n : Int) + 1)) t n (ev p k r m l), ?_, ⟨⟨?_, by omega⟩, fun i hi => ?_, fun i j hi hj he => ?_, fun z hz hnz => ?_⟩, fun c c1 c2 => ?_, fun j hj => ?_⟩
  · obtain ⟨k', rfl⟩ : ∃ k' : Nat, k = k' := ⟨k.toNat, by omega⟩
    obtain ⟨r', rfl⟩ : ∃ r' : Nat, r = r' := ⟨r.toNat, by omega⟩
    obtain ⟨m', rfl⟩ : ∃ m' : Nat, m = m' := ⟨m.toNat, by omega⟩
    obtain ⟨l', rfl⟩ : ∃ l' : Nat, l = l' := ⟨l.toNat, by omega⟩
    unfold g_L_add
    rw [ld_t 3 (by omega) (by omega), bs, h1, ck_t (by omega), bs, sw_t 3 (by omega) (by omega), bs, or5 hp (by omega) (by omega) (by omega) (by omega), sw_t n rfl hn, bs]
  · rw [up2_ne hqt, up2_s]
    omega
  · by_cases e : i = n
    · subst e
      rw [up2_s, d2, Int.toNat_natCast, us_s]
      exact ⟨d1, by omega, d4.symm⟩
    · obtain ⟨a1, a2, a3⟩ := h3 i (by omega)
      have hne : (T t i / 65536).toNat ≠ p := fun z => h.nz (show i < n by omega) (by rw [z]; exact h0)
      rw [up2_n (by omega), up2_ne (Ne.symm hqt), us_n (by omega)]
      exact ⟨a1, a2, a3⟩
  · have hne : ∀ i, i < n → T t i / 65536 ≠ p := fun i hi z => h.nz hi (by rw [z, Int.toNat_natCast]; exact h0)
    by_cases ei : i = n
    · by_cases ej : j = n
      · omega
      · rw [ei, up2_s, hv j ej, d2] at he
        exact absurd he.symm (hne j (by omega))
    · by_cases ej : j = n
      · rw [ej, up2_s, hv i ei, d2] at he
        exact absurd he (hne i (by omega))
      · rw [hv i ei, hv j ej] at he
        exact h4 i j (by omega) (by omega) he
  · by_cases e : z = p
    · subst e
      exact ⟨n, by omega, by rw [up2_s]; exact d2⟩
    · rw [us_n (by omega)] at hnz
      obtain ⟨i, a1, a2⟩ := h5 z hz hnz
      exact ⟨i, by omega, by rw [up2_n (by omega), up2_ne (Ne.symm hqt)]; exact a2⟩
  · rw [up2_ne c2, up2_ne c1]
  · rw [up2_ne hqt, up2_n (by omega)]
theorem TT.drop {T : Blk} {q t : Nat} {s : Nat → Int} {n : Nat} (h : TT T q t s n) (hqt : q ≠ t) {k p : Nat} (hk : k < n) (hp : T t k / 65536 = p) : ∃ (n' : Nat) (T' : Blk), n = n' + 1 ∧ g_L_drop T k t 64 q 4 = some T' ∧ TT T' q t (us s (363 + p) 0) n' ∧ (∀ c, c ≠ q → c ≠ t → T' c = T c) ∧ (∀ j, j ≠ 3 → T' q j = T q j) ∧ ∀ i, i < n' → T' t i = if i = k then T t n' else T t i := by
  obtain ⟨⟨h1, h2⟩, h3, h4, h5⟩ := id h
  obtain ⟨n', rfl⟩ : ∃ n', n = n' + 1 := ⟨n - 1, by omega⟩
  have hv : ∀ i, up2 (up2 T q 3 (n' : Int)) t k (T t n') t i = if i = k then T t n' else T t i := fun i => by
    by_cases e : i = k
    · rw [if_pos e, e, up2_s]
    · rw [if_neg e, up2_n (by omega), up2_ne (Ne.symm hqt)]
  have hpk := (h3 k hk).1
  refine ⟨n', up2 (up2 T q 3 (n' : Int)) t k (T t n'), rfl, ?_, ⟨⟨?_, by omega⟩, fun i hi => ?_, fun i j hi hj he => ?_, fun z hz hnz => ?_⟩, fun c c1 c2 => ?_, fun j hj => ?_, fun i hi => hv i⟩
  · unfold g_L_drop
    rw [if_neg (by omega), ld_t 3 (by omega) (by omega), bs, h1, show ((n' + 1 : Nat) : Int) - 1 = (n' : Int) by omega, ck_t (by omega), bs, sw_t 3 (by omega) (by omega), bs, ld_t n' rfl (by omega), bs, up2_ne (Ne.symm hqt), sw_t k rfl (by omega), bs]
  · rw [up2_ne hqt, up2_s]
  · have hi2 : (if i = k then n' else i) < n' + 1 := by split <;> omega
    have hv2 : up2 (up2 T q 3 (n' : Int)) t k (T t n') t i = T t (if i = k then n' else i) := by
      rw [hv]
      split <;> rfl
    obtain ⟨a1, a2, a3⟩ := h3 _ hi2
    have hne : (T t (if i = k then n' else i) / 65536) ≠ p := fun z => by
      have := h4 _ k hi2 hk (z.trans hp.symm)
      split at this <;> omega
    rw [hv2, us_n (by omega)]
    exact ⟨a1, a2, a3⟩
  · have hv2 : ∀ i, up2 (up2 T q 3 (n' : Int)) t k (T t n') t i = T t (if i = k then n' else i) := fun i => by
      rw [hv]
      split <;> rfl
    rw [hv2, hv2] at he
    have := h4 _ _ (by split <;> omega) (by split <;> omega) he
    split at this <;> split at this <;> omega
  · by_cases e : z = p
    · rw [e, us_s] at hnz
      exact absurd rfl hnz
    · rw [us_n (by omega)] at hnz
      obtain ⟨i, a1, a2⟩ := h5 z hz hnz
      have hik : i ≠ k := fun w => by
        rw [w, hp] at a2
        omega
      by_cases e2 : i = n'
      · exact ⟨k, by omega, by rw [hv, if_pos rfl, ← e2]; exact a2⟩
      · exact ⟨i, by omega, by rw [hv, if_neg hik]; exact a2⟩
  · rw [up2_ne c2, up2_ne c1]
  · rw [up2_ne hqt, up2_n (by omega)]
/-! what is looked up in the table -/
theorem l_free {T : Blk} {q t : Nat} {s : Nat → Int} {n : Nat} (h : TT T q t s n) (hT : TK s) {p : Nat} (hp : p < 10) : g_L_free T p t 64 n = some (fr s p) := by
  let f : Nat → Int := fun k => if T t k / 65536 / 40 = p then cl (mv (T t k)) else 0
  have hb : ∀ k, k < n → 0 ≤ f k ∧ f k ≤ 18 := fun k hk => by
    obtain ⟨h1, h2, h3⟩ := h.2.1 k hk
    have h4 := cl_rng (hT (T t k / 65536).toNat (by omega))
    rw [h3] at h4
    by_cases e : T t k / 65536 / 40 = p
    · have e2 : f k = cl (mv (T t k)) := if_pos e
      omega
    · have e2 : f k = 0 := if_neg e
      omega
  have hsum : ∀ x, x ≤ n → 0 ≤ sumN f x ∧ sumN f x ≤ x * 18 := fun x hx => ⟨sumN_nonneg (fun i hi => (hb i (by omega)).1), sumN_le (fun i hi => (hb i (by omega)).2)⟩
  have hn := h.1.2
  have key := loopUp (F := fun m x => g_L_free_L6 T p t 64 n m (40 - sumN f x) (x : Int)) (R := some (40 - sumN f n)) n (fun m x hx => ?_) (fun m => ?_) fu 0 (by omega) (fu_lt (by omega))
  · have e : sumN f n = sumN (fun j => cl (s (363 + (40 * p + j)))) 40 := h.page hp rfl
    unfold g_L_free fr
    rw [← e]
    exact key
  · show g_L_free_L6 T p t 64 n (m + 1) (40 - sumN f x) (x : Int) = g_L_free_L6 T p t 64 n m (40 - (sumN f x + f x)) ((x + 1 : Nat) : Int)
    obtain ⟨h1, h2, h3⟩ := h.2.1 x hx
    have h4 := hb x hx
    have h5 := hsum x (by omega)
    rw [g_L_free_L6, if_neg (by omega), ld_t x rfl (by omega), bs, ishr16 h1.1 (by omega), dv_t (by omega), bs, jp_t]
    by_cases e : T t x / 65536 / 40 = p
    · have hf : f x = cl (mv (T t x)) := if_pos e
      rw [if_neg (show ¬ T t x / 65536 / 40 ≠ p from fun z => z e), bs, l_cells h1 h2, bs, ← hf]
      dsimp only
      rw [ck_t (by omega), bs, ck_t (by omega), bs]
      congr 1
      omega
    · have hf : f x = 0 := if_neg e
      rw [if_pos e]
      dsimp only
      rw [ck_t (by omega), bs, ck_t (by omega), bs, hf]
      congr 1
      omega
  · show g_L_free_L6 T p t 64 n (m + 1) (40 - sumN f n) (n : Int) = _
    rw [g_L_free_L6, if_pos (by omega)]
theorem l_at {T : Blk} {q t : Nat} {s : Nat → Int} {n : Nat} (h : TT T q t s n) {p : Nat} (hp : p < 400) : ∃ r, g_L_at T p t 64 n = some r ∧ ((r < 0 ∧ s (363 + p) = 0) ∨ (0 ≤ r ∧ s (363 + p) ≠ 0)) := by
  obtain ⟨b, b1, b2, b3⟩ := first_z (fun k => T t k / 65536 = p) n
  have hn := h.1.2
  have key := loopUp (F := fun m x => g_L_at_L2 T p t 64 n m (x : Int)) (R := some (if b = n then -1 else (b : Int))) b (fun m x hx => ?_) (fun m => ?_) fu 0 (by omega) (fu_lt (by omega))
  · refine ⟨_, key, ?_⟩
    by_cases e : b = n
    · rw [if_pos e]
      refine Or.inl ⟨by decide, Classical.byContradiction fun z => ?_⟩
      obtain ⟨k, a1, a2⟩ := h.2.2.2 p hp z
      exact b2 k (by omega) a2
    · rw [if_neg e]
      refine Or.inr ⟨by omega, fun z => h.nz (show b < n by omega) ?_⟩
      rw [b3.resolve_left e, Int.toNat_natCast]
      exact z
  · show g_L_at_L2 T p t 64 n (m + 1) (x : Int) = g_L_at_L2 T p t 64 n m ((x + 1 : Nat) : Int)
    obtain ⟨h1, -⟩ := h.2.1 x (by omega)
    rw [g_L_at_L2, if_neg (by omega), ld_t x rfl (by omega), bs, ishr16 h1.1 (by omega), if_pos (b2 x hx), ck_t (by omega), bs]
    rfl
  · show g_L_at_L2 T p t 64 n (m + 1) (b : Int) = _
    rw [g_L_at_L2]
    by_cases e : b = n
    · rw [if_pos (by omega), if_pos e]
    · obtain ⟨h1, -⟩ := h.2.1 b (by omega)
      rw [if_neg (by omega), ld_t b rfl (by omega), bs, ishr16 h1.1 (by omega), if_neg (fun z => z (b3.resolve_left e)), if_neg e]
theorem l_find {T : Blk} {q t : Nat} {s : Nat → Int} {n : Nat} (h : TT T q t s n) (k r m : Int) : (g_L_find T k r m t 64 n = some (-1) ∧ ∀ i, i < n → ¬ (T t i / 16384 % 4 = k ∧ T t i / 2048 % 8 = r ∧ T t i / 32 % 64 = m)) ∨ ∃ i : Nat, i < n ∧ g_L_find T k r m t 64 n = some (i : Int) ∧ T t i / 16384 % 4 = k ∧ T t i / 2048 % 8 = r ∧ T t i / 32 % 64 = m := by
  obtain ⟨b, b1, b2, b3⟩ := first_z (fun i => T t i / 16384 % 4 = k ∧ T t i / 2048 % 8 = r ∧ T t i / 32 % 64 = m) n
  have hn := h.1.2
  have dec : ∀ i, i < n → iand (ishr (T t i) 14) 3 = T t i / 16384 % 4 ∧ iand (ishr (T t i) 11) 7 = T t i / 2048 % 8 ∧ iand (ishr (T t i) 5) 63 = T t i / 32 % 64 := fun i hi => by
    obtain ⟨h1, -⟩ := h.2.1 i hi
    rw [ishr14 h1.1 (by omega), ishr11 h1.1 (by omega), ishr5 h1.1 (by omega), iand3 (by omega) (by omega), iand7 (by omega) (by omega), iand63 (by omega) (by omega)]
    exact ⟨rfl, rfl, rfl⟩
  have key := loopUp (F := fun z x => g_L_find_L3 T k r m t 64 n z (x : Int)) (R := some (if b = n then -1 else (b : Int))) b (fun z x hx => ?_) (fun z => ?_) fu 0 (by omega) (fu_lt (by omega))
  · by_cases e : b = n
    · rw [if_pos e] at key
      exact Or.inl ⟨key, fun i hi => b2 i (by omega)⟩
    · rw [if_neg e] at key
      exact Or.inr ⟨b, by omega, key, b3.resolve_left e⟩
  · show g_L_find_L3 T k r m t 64 n (z + 1) (x : Int) = g_L_find_L3 T k r m t 64 n z ((x + 1 : Nat) : Int)
    obtain ⟨d1, d2, d3⟩ := dec x (by omega)
    have hb := b2 x hx
    have hgo : Option.bind (ck ((x : Int) + 1)) (fun v4 => g_L_find_L3 T k r m t 64 n z v4) = g_L_find_L3 T k r m t 64 n z ((x + 1 : Nat) : Int) := by
      rw [ck_t (by omega), bs]
      rfl
    rw [g_L_find_L3, if_neg (by omega), ld_t x rfl (by omega), bs, jp_t, bs, bs, d1, d2, d3]
    by_cases e1 : T t x / 16384 % 4 = k
    · rw [if_neg (show ¬ T t x / 16384 % 4 ≠ k from fun w => w e1)]
      by_cases e2 : T t x / 2048 % 8 = r
      · rw [if_neg (show ¬ T t x / 2048 % 8 ≠ r from fun w => w e2), if_pos (show T t x / 32 % 64 ≠ m from fun w => hb ⟨e1, e2, w⟩)]
        exact hgo
      · rw [if_pos e2]
        exact hgo
    · rw [if_pos e1]
      exact hgo
  · show g_L_find_L3 T k r m t 64 n (z + 1) (b : Int) = _
    rw [g_L_find_L3]
    by_cases e : b = n
    · rw [if_pos (by omega), if_pos e]
    · obtain ⟨d1, d2, d3⟩ := dec b (by omega)
      obtain ⟨e1, e2, e3⟩ := b3.resolve_left e
      rw [if_neg (by omega), ld_t b rfl (by omega), bs, jp_t, bs, bs, d1, d2, d3, if_neg (show ¬ T t b / 16384 % 4 ≠ k from fun w => w e1), if_neg (show ¬ T t b / 2048 % 8 ≠ r from fun w => w e2), if_neg (show ¬ T t b / 32 % 64 ≠ m from fun w => w e3), if_neg e]
theorem l_room {T : Blk} {q t : Nat} {s : Nat → Int} {n : Nat} (h : TT T q t s n) (hT : TK s) {c : Int} (hc : 1 ≤ c ∧ c ≤ 18) : g_L_room T c t 64 n = some (if pgT s c < 10 then (spT s c : Int) else -1) := by
  let f : Nat → Int := fun p => if c ≤ fr s p then 0 else 1
  have key : ∀ (m x : Nat), x ≤ 10 → 10 - x < m → firstZ f (10 - x) x = pgT s c → g_L_room_L2 T c t 64 n m (x : Int) = some (if pgT s c < 10 then (spT s c : Int) else -1) := by
    intro m
    induction m with
    | zero => intro x _ h; omega
    | succ m ih =>
      intro x hx hm hg
      rw [g_L_room_L2]
      by_cases e : x = 10
      · subst e
        have hg' : 10 = pgT s c := hg
        rw [if_pos (by omega), if_neg (by omega)]
      · rw [if_neg (by omega), l_free h hT (by omega), bs]
        rw [show 10 - x = (10 - (x + 1)) + 1 by omega] at hg
        unfold firstZ at hg
        by_cases e2 : c ≤ fr s x
        · have e3 : f x = 0 := if_pos e2
          rw [if_pos e3] at hg
          subst hg
          have h9 := loE_lt hT (p := pgT s c) (by omega) (by omega)
          have in1 := loopUp (F := fun z y => g_L_room_L24 T t 64 n ((pgT s c : Nat) : Int) (fun x4 => Option.bind (ck ((40 * ((pgT s c : Nat) : Int)) + x4)) fun v5 => some v5) z (y : Int)) (R := some (spT s c : Int)) (loE s (pgT s c)) (fun z y hy => ?_) (fun z => ?_) fu 0 (by omega) (fu_lt (by omega))
          · rw [if_pos e2, jp_t, if_pos (by omega)]
            exact in1
          · show g_L_room_L24 T t 64 n ((pgT s c : Nat) : Int) _ (z + 1) (y : Int) = g_L_room_L24 T t 64 n ((pgT s c : Nat) : Int) _ z ((y + 1 : Nat) : Int)
            have hnz := firstZ_nz (f := fun j => s (363 + (40 * pgT s c + j))) 40 0 y (by omega) hy
            obtain ⟨r, r1, r2⟩ := l_at h (p := 40 * pgT s c + y) (by omega)
            have e9 : 40 * ((pgT s c : Nat) : Int) + (y : Int) = ((40 * pgT s c + y : Nat) : Int) := by omega
            rw [g_L_room_L24, e9, ck_t (by omega), bs, r1, bs]
            rcases r2 with r2 | r2
            · exact absurd r2.2 hnz
            · rw [if_neg (by omega), ck_t (by omega), bs]
              rfl
          · show g_L_room_L24 T t 64 n ((pgT s c : Nat) : Int) _ (z + 1) ((loE s (pgT s c) : Nat) : Int) = _
            have hz0 := firstZ_z (f := fun j => s (363 + (40 * pgT s c + j))) 40 0 (by unfold loE at h9; omega)
            obtain ⟨r, r1, r2⟩ := l_at h (p := 40 * pgT s c + loE s (pgT s c)) (by omega)
            have e9 : 40 * ((pgT s c : Nat) : Int) + ((loE s (pgT s c) : Nat) : Int) = ((40 * pgT s c + loE s (pgT s c) : Nat) : Int) := by omega
            rw [g_L_room_L24, e9, ck_t (by omega), bs, r1, bs]
            rcases r2 with r2 | r2
            · rw [if_pos r2.1]
              rfl
            · exact absurd hz0 r2.2
        · have e3 : f x ≠ 0 := by show (if c ≤ fr s x then (0 : Int) else 1) ≠ 0; rw [if_neg e2]; decide
          rw [if_neg e3] at hg
          rw [if_neg e2, ck_t (by omega), bs]
          exact ih (x + 1) (by omega) (by omega) hg
  exact key fu 0 (by omega) (fu_lt (by omega)) rfl
theorem l_kinds {T : Blk} {q t : Nat} {s : Nat → Int} {n : Nat} (h : TT T q t s n) {k : Int} (hk : 1 ≤ k) : g_L_kinds T k t 64 n = some (sumN (fun p => if kd (s (363 + p)) = k then 1 else 0) 400) := by
  let f : Nat → Int := fun i => if kd (mv (T t i)) = k then 1 else 0
  have hn := h.1.2
  have hb : ∀ x, x ≤ n → 0 ≤ sumN f x ∧ sumN f x ≤ x * 1 := fun x hx => ⟨sumN_nonneg (fun i hi => by show 0 ≤ (if _ then _ else _ : Int); split <;> omega), sumN_le (fun i hi => by show (if _ then _ else _ : Int) ≤ 1; split <;> omega)⟩
  have key := loopUp (F := fun m x => g_L_kinds_L5 T k t 64 n m (sumN f x) (x : Int)) (R := some (sumN f n)) n (fun m x hx => ?_) (fun m => ?_) fu 0 (by omega) (fu_lt (by omega))
  · have e := h.all (g := fun v => if kd v = k then 1 else 0) (if_neg (by show ¬ kd 0 = k; rw [show kd 0 = 0 from rfl]; omega))
    unfold g_L_kinds
    rw [← e]
    exact key
  · show g_L_kinds_L5 T k t 64 n (m + 1) (sumN f x) (x : Int) = g_L_kinds_L5 T k t 64 n m (sumN f x + f x) ((x + 1 : Nat) : Int)
    obtain ⟨h1, h2, h3⟩ := h.2.1 x hx
    have h5 := hb x (by omega)
    have h6 := (mv_dec h1.1).1
    rw [g_L_kinds_L5, if_neg (by omega), ld_t x rfl (by omega), bs, ishr14 h1.1 (by omega), iand3 (by omega) (by omega), ← h6, jp_t]
    by_cases e : kd (mv (T t x)) = k
    · have hf : f x = 1 := if_pos e
      rw [if_neg (show ¬ kd (mv (T t x)) ≠ k from fun z => z e), hf]
      dsimp only
      rw [ck_t (by omega), bs, ck_t (by omega), bs]
      rfl
    · have hf : f x = 0 := if_neg e
      rw [if_pos e, hf]
      dsimp only
      rw [ck_t (by omega), bs, ck_t (by omega), bs]
      rfl
  · show g_L_kinds_L5 T k t 64 n (m + 1) (sumN f n) (n : Int) = _
    rw [g_L_kinds_L5, if_pos (by omega)]
