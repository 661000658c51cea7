/-! PURE: same: the pages *)  -/
/-- what stands before 'same': the class and the tables of the law hold one state -/
def SM (σ : Blk) (B : Nat → Blk) (nb q n : Nat) (T : Blk) (s : Nat → Int) : Prop := (σ 0 3 = (q : Int) ∧ q < nb) ∧ RB (vb B q) s ∧ TT T 0 2 s n ∧ LRow T 1 s ∧ (T 0 0 = s 0 ∧ T 0 1 = s 1 ∧ T 0 2 = s 2) ∧ ∀ x, x < 6 → pt s x 0 = 1 → LEx T x (lt s x) (pt s x 2).toNat
theorem sumN_bit {P : Nat → Prop} [DecidablePred P] (n : Nat) : 0 ≤ sumN (fun i => if P i then (1 : Int) else 0) n ∧ sumN (fun i => if P i then (1 : Int) else 0) n ≤ n := bit_rng n
/-- the greatest slot of page p among the first k things, and one -/
def mxS (T : Blk) (t p : Nat) : Nat → Int
  | 0 => 0
  | k + 1 => if T t k / 65536 / 40 = p then (if T t k / 65536 % 40 < mxS T t p k then mxS T t p k else T t k / 65536 % 40 + 1) else mxS T t p k
theorem mxS_is {T : Blk} {t p : Nat} : ∀ k, 0 ≤ mxS T t p k ∧ mxS T t p k ≤ 40 ∧ (∀ i, i < k → T t i / 65536 / 40 = p → T t i / 65536 % 40 < mxS T t p k) ∧ (mxS T t p k = 0 ∨ ∃ i, i < k ∧ T t i / 65536 / 40 = p ∧ mxS T t p k = T t i / 65536 % 40 + 1)
  | 0 => ⟨Int.le_refl 0, show (0 : Int) ≤ 40 by decide, fun i hi => absurd hi (Nat.not_lt_zero i), Or.inl rfl⟩
  | k + 1 => by
    obtain ⟨h1, h2, h3, h4⟩ := mxS_is (T := T) (t := t) (p := p) k
    unfold mxS
    by_cases e : T t k / 65536 / 40 = p
    · rw [if_pos e]
      by_cases e2 : T t k / 65536 % 40 < mxS T t p k
      · rw [if_pos e2]
        refine ⟨h1, h2, fun i hi hp => ?_, h4.imp id (fun ⟨i, a, b⟩ => ⟨i, by omega, b⟩)⟩
        by_cases ei : i = k
        · rw [ei]; exact e2
        · exact h3 i (by omega) hp
      · rw [if_neg e2]
        refine ⟨by omega, by omega, fun i hi hp => ?_, Or.inr ⟨k, by omega, e, rfl⟩⟩
        by_cases ei : i = k
        · rw [ei]; omega
        · have := h3 i (by omega) hp
          omega
    · rw [if_neg e]
      refine ⟨h1, h2, fun i hi hp => ?_, h4.imp id (fun ⟨i, a, b⟩ => ⟨i, by omega, b⟩)⟩
      by_cases ei : i = k
      · rw [ei] at hp; exact absurd hp e
      · exact h3 i (by omega) hp
theorem mxS_s {T : Blk} {t p k : Nat} : mxS T t p (k + 1) = if T t k / 65536 / 40 = p then (if T t k / 65536 % 40 < mxS T t p k then mxS T t p k else T t k / 65536 % 40 + 1) else mxS T t p k := rfl
theorem mxS_sl {T : Blk} {q t n p : Nat} {s : Nat → Int} (h : TT T q t s n) (hp : p < 10) : mxS T t p n = (slT s p : Int) := by
  obtain ⟨h1, h2, h3, h4⟩ := mxS_is (T := T) (t := t) (p := p) n
  have hs := slT_le s p
  apply Int.le_antisymm
  · rcases h4 with h4 | ⟨i, i1, i2, i3⟩
    · omega
    · rcases Nat.lt_or_ge (T t i / 65536 % 40).toNat (slT s p) with z | z
      · omega
      · exfalso
        have h5 := h.nz i1
        have h6 := slT_above (s := s) (p := p) z (by omega)
        rw [show 40 * p + (T t i / 65536 % 40).toNat = (T t i / 65536).toNat by have := (h.2.1 i i1).1; omega] at h6
        exact h5 h6
  · by_cases e : slT s p = 0
    · omega
    · have h5 := lastN_nz (f := fun j => s (363 + (40 * p + j))) (n := 40) (by unfold slT at e; omega)
      obtain ⟨k, k1, k2⟩ := h.2.2.2 (40 * p + (slT s p - 1)) (by omega) h5
      have := h3 k k1 (by omega)
      omega
theorem onT_of {T : Blk} {q t n p : Nat} {s : Nat → Int} (h : TT T q t s n) (hp : p < 10) {k : Int} (hk : 1 ≤ k) : sumN (fun i => if T t i / 65536 / 40 = p then (if kd (mv (T t i)) = k then 1 else 0) else 0) n = onT s p k := by
  have e := h.page hp (g := fun v => if kd v = k then 1 else 0) (if_neg (by show ¬ kd 0 = k; rw [show kd 0 = 0 from rfl]; omega))
  rw [e]
  unfold onT
  refine sumN_congr (fun j hj => ?_)
  by_cases e0 : s (363 + (40 * p + j)) = 0
  · rw [if_pos e0, e0, if_neg (by rw [show kd 0 = 0 from rfl]; omega)]
  · rw [if_neg e0, if_neg (show ¬ k = 0 by omega)]
    by_cases e1 : kd (s (363 + (40 * p + j))) = k
    · rw [if_pos e1, if_neg (fun z => z e1)]
    · rw [if_neg e1, if_pos e1]
theorem onT_all {s : Nat → Int} (hT : TK s) {p : Nat} (hp : p < 10) : onT s p 0 = onT s p 1 + onT s p 2 + onT s p 3 := by
  unfold onT
  rw [← sumN_add, ← sumN_add]
  refine sumN_congr (fun j hj => ?_)
  have ht := hT (40 * p + j) (by omega)
  by_cases e0 : s (363 + (40 * p + j)) = 0
  · rw [if_pos e0, if_pos e0, if_pos e0, if_pos e0]
    rfl
  · have hk : kd (s (363 + (40 * p + j))) = 1 ∨ kd (s (363 + (40 * p + j))) = 2 ∨ kd (s (363 + (40 * p + j))) = 3 := by
      rcases ht with z | z
      · exact absurd z e0
      · unfold kd
        omega
    rw [if_neg e0, if_neg e0, if_neg e0, if_neg e0]
    rcases hk with z | z | z <;> rw [z] <;> decide
section SAME
variable {σ : Blk} {B : Nat → Blk} {nb q n : Nat} {T τ : Blk}
theorem same_page (h : SM σ B nb q n T (τ 1)) {p : Nat} (hp : p < 10) (j : Int → Int → Int → Int → Option Int) : g_L_same_L41 σ B nb T p j fu 0 0 0 0 0 = j (slT (τ 1) p) (onT (τ 1) p 1) (onT (τ 1) p 2) (onT (τ 1) p 3) := by
  obtain ⟨⟨hq, hn⟩, hR, hT, hL, -, -⟩ := h
  obtain ⟨⟨hS, hRW, hP, hF, -⟩, -⟩ := id hR
  have hnn := hT.1.2
  let c : Int → Nat → Int := fun k x => sumN (fun i => if T 2 i / 65536 / 40 = p then (if kd (mv (T 2 i)) = k then 1 else 0) else 0) x
  have hb : ∀ k x, 0 ≤ c k x ∧ c k x ≤ x * 1 := fun k x => ⟨sumN_nonneg (fun i _ => by show 0 ≤ (if T 2 i / 65536 / 40 = (p : Int) then (if kd (mv (T 2 i)) = k then (1 : Int) else 0) else 0); split <;> (try split) <;> omega), sumN_le (fun i _ => by show (if T 2 i / 65536 / 40 = (p : Int) then (if kd (mv (T 2 i)) = k then (1 : Int) else 0) else 0) ≤ 1; split <;> (try split) <;> omega)⟩
  rw [← onT_of hT hp (by decide), ← onT_of hT hp (by decide), ← onT_of hT hp (by decide), ← mxS_sl hT hp]
  refine loopUp (F := fun m x => g_L_same_L41 σ B nb T p j m (mxS T 2 p x) (c 1 x) (c 2 x) (c 3 x) (x : Int)) (R := j (mxS T 2 p n) (c 1 n) (c 2 n) (c 3 n)) n (fun m x hx => ?_) (fun m => ?_) fu 0 (by omega) (fu_lt (by omega))
  · show g_L_same_L41 σ B nb T p j (m + 1) (mxS T 2 p x) (c 1 x) (c 2 x) (c 3 x) (x : Int) = g_L_same_L41 σ B nb T p j m (mxS T 2 p (x + 1)) (c 1 x + _) (c 2 x + _) (c 3 x + _) ((x + 1 : Nat) : Int)
    obtain ⟨v1, v2, v3⟩ := hT.2.1 x hx
    obtain ⟨m1, m2, m3, -⟩ := mv_dec v1.1
    obtain ⟨x1, x2, -⟩ := mxS_is (T := T) (t := 2) (p := p) x
    have b1 := hb 1 x
    have b2 := hb 2 x
    have b3 := hb 3 x
    have hgo : ∀ a b d e : Int, a = mxS T 2 p (x + 1) → b = c 1 x + (if T 2 x / 65536 / 40 = p then (if kd (mv (T 2 x)) = 1 then 1 else 0) else 0) → d = c 2 x + (if T 2 x / 65536 / 40 = p then (if kd (mv (T 2 x)) = 2 then 1 else 0) else 0) → e = c 3 x + (if T 2 x / 65536 / 40 = p then (if kd (mv (T 2 x)) = 3 then 1 else 0) else 0) → (Option.bind (ck ((x : Int) + 1)) fun v143 => g_L_same_L41 σ B nb T p j m a b d e v143) = g_L_same_L41 σ B nb T p j m (mxS T 2 p (x + 1)) (c 1 x + (if T 2 x / 65536 / 40 = p then (if kd (mv (T 2 x)) = 1 then 1 else 0) else 0)) (c 2 x + (if T 2 x / 65536 / 40 = p then (if kd (mv (T 2 x)) = 2 then 1 else 0) else 0)) (c 3 x + (if T 2 x / 65536 / 40 = p then (if kd (mv (T 2 x)) = 3 then 1 else 0) else 0)) ((x + 1 : Nat) : Int) := fun a b d e ha hb hd he => by
      rw [ck_t (by omega), bs, ha, hb, hd, he]
      rfl
    rw [g_L_same_L41, ld_t 3 (by omega) (by omega), bs, hT.1.1, if_neg (by omega), ld_t x rfl (by omega), bs, nm_t, ishr16 v1.1 (by omega), dv_t (by omega), bs, jp_t]
    by_cases e : T 2 x / 65536 / 40 = p
    · have hsl : T 2 x / 65536 % 40 < (slT (τ 1) p : Int) := by
        rcases Nat.lt_or_ge (T 2 x / 65536 % 40).toNat (slT (τ 1) p) with z | z
        · omega
        · exfalso
          have h6 := slT_above (s := τ 1) (p := p) z (by omega)
          rw [show 40 * p + (T 2 x / 65536 % 40).toNat = (T 2 x / 65536).toNat by omega] at h6
          exact hT.nz hx h6
      have epl : 40 * p + (T 2 x / 65536 % 40).toNat = (T 2 x / 65536).toNat := by omega
      have hnz := hT.nz hx
      obtain ⟨r, hr, hi, hrw⟩ := hF.rowof (q := (T 2 x / 65536).toNat) (by omega) hnz
      have hrow := hL.live hr hi
      obtain ⟨o1, o2, o3⟩ := o_slot (σ := σ) (nb := nb) hq hn hR hp (j := (T 2 x / 65536 % 40).toNat) (by omega) (by rw [epl]; exact hnz)
      rw [epl] at o1 o2 o3
      rw [v3] at o1 o2 o3 hrw
      rw [show (((T 2 x / 65536 % 40).toNat : Nat) : Int) = T 2 x / 65536 % 40 by omega] at o1 o2 o3
      rw [hrw, Int.toNat_natCast] at o2
      have er : T 2 x / 2048 % 8 = r := by rw [← m2]; exact hrw
      rw [if_pos e, bs, nm_t, ishr14 v1.1 (by omega), iand3 (by omega) (by omega), ← m1, rm_t (by omega), bs, jp_t]
      have hK : ∀ z : Int, z = mxS T 2 p (x + 1) → jp (fun (x150 : Int) => Option.bind (ck (c 1 x + x150)) fun v151 => jp (fun (x153 : Int) => Option.bind (ck (c 2 x + x153)) fun v154 => jp (fun (x156 : Int) => Option.bind (ck (c 3 x + x156)) fun v157 => Option.bind (some (T 2 x / 65536 % 40)) fun v158 => Option.bind (g_X4_slot σ B nb p v158 0) fun r159 => if r159 ≠ kd (mv (T 2 x)) then some 0 else Option.bind (some (T 2 x / 65536 % 40)) fun v160 => Option.bind (g_X4_slot σ B nb p v160 1) fun r161 => Option.bind (some (T 2 x)) fun v162 => Option.bind (ld T 1 28 (4 * iand (ishr v162 11) 7)) fun v163 => if r161 ≠ v163 then some 0 else Option.bind (some (T 2 x / 65536 % 40)) fun v164 => Option.bind (g_X4_slot σ B nb p v164 2) fun r165 => Option.bind (some (T 2 x)) fun v166 => Option.bind (g_L_cells v166) fun r167 => if r165 = r167 then (Option.bind (ck ((x : Int) + 1)) fun v143 => g_L_same_L41 σ B nb T p j m z v151 v154 v157 v143) else some 0) fun j155 => if kd (mv (T 2 x)) ≠ 3 then j155 0 else j155 1) fun j152 => if kd (mv (T 2 x)) ≠ 2 then j152 0 else j152 1) (fun j149 => if kd (mv (T 2 x)) ≠ 1 then j149 0 else j149 1) = g_L_same_L41 σ B nb T p j m (mxS T 2 p (x + 1)) (c 1 x + (if T 2 x / 65536 / 40 = p then (if kd (mv (T 2 x)) = 1 then 1 else 0) else 0)) (c 2 x + (if T 2 x / 65536 / 40 = p then (if kd (mv (T 2 x)) = 2 then 1 else 0) else 0)) (c 3 x + (if T 2 x / 65536 / 40 = p then (if kd (mv (T 2 x)) = 3 then 1 else 0) else 0)) ((x + 1 : Nat) : Int) := fun z hz => by
        have sel : ∀ (k : Int) (K : Int → Option Int), jp K (fun j' => if kd (mv (T 2 x)) ≠ k then j' 0 else j' 1) = K (if kd (mv (T 2 x)) = k then 1 else 0) := fun k K => by
          show (if kd (mv (T 2 x)) ≠ k then K 0 else K 1) = _
          by_cases ek : kd (mv (T 2 x)) = k
          · rw [if_neg (show ¬ kd (mv (T 2 x)) ≠ k from fun w => w ek), if_pos ek]
          · rw [if_pos (show kd (mv (T 2 x)) ≠ k from ek), if_neg ek]
        have bt : ∀ k : Int, 0 ≤ (if kd (mv (T 2 x)) = k then (1 : Int) else 0) ∧ (if kd (mv (T 2 x)) = k then (1 : Int) else 0) ≤ 1 := fun k => by split <;> omega
        have t1 := bt 1
        have t2 := bt 2
        have t3 := bt 3
        rw [sel 1, ck_t (by omega), bs, sel 2, ck_t (by omega), bs, sel 3, ck_t (by omega), bs, bs, o1, bs, if_neg (fun w => w rfl), bs, o2, bs, bs, ishr11 v1.1 (by omega), iand7 (by omega) (by omega), er, ld_t (4 * r) (by omega) (by omega), bs, hrow.2.1, if_neg (fun w => w rfl), bs, o3, bs, bs, l_cells v1 v2, bs, if_pos rfl]
        exact hgo _ _ _ _ hz (by rw [if_pos e]) (by rw [if_pos e]) (by rw [if_pos e])
      by_cases e2 : T 2 x / 65536 % 40 < mxS T 2 p x
      · rw [if_pos e2]
        exact hK _ (by rw [mxS_s, if_pos e, if_pos e2])
      · rw [if_neg e2, bs, ck_t (by omega), bs]
        exact hK _ (by rw [mxS_s, if_pos e, if_neg e2])
    · rw [if_neg e]
      refine (hgo _ _ _ _ ?_ ?_ ?_ ?_)
      · rw [mxS_s, if_neg e]
      · rw [if_neg e]; omega
      · rw [if_neg e]; omega
      · rw [if_neg e]; omega
  · show g_L_same_L41 σ B nb T p j (m + 1) (mxS T 2 p n) (c 1 n) (c 2 n) (c 3 n) (n : Int) = _
    rw [g_L_same_L41, ld_t 3 (by omega) (by omega), bs, hT.1.1, if_pos (by omega)]
end SAME
