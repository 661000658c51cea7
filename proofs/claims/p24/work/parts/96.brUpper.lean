/-! BRIDGE: the class itself; the two Books and all others are seen by vb -/
def vb (B : Nat → Blk) : Nat → Blk := fun k => VW (B k)
theorem vb_ub {B : Nat → Blk} {k : Nat} {β : Blk} : vb (ub B k β) = ub (vb B) k (VW β) := by
  funext j
  unfold vb ub
  by_cases e : j = k
  · rw [if_pos e, if_pos e]
  · rw [if_neg e, if_neg e]
theorem vb_lo {B : Nat → Blk} {q c : Nat} (h : c < 6) : vb B q c = B q c := vw_lo h
def RU (y x : Up) : Prop := y.1 = x.1 ∧ vb y.2.1 = x.2.1 ∧ y.2.2 = x.2.2
def RUr (σ : Blk) (y x : Up) : Prop := RU y x ∧ y.1 0 = σ 0
def RT (y x : Int × Up) : Prop := y.1 = x.1 ∧ RU y.2 x.2
section LEU
variable {α γ : Type} {R : γ → α → Prop} {g : Option γ}
theorem le_u {σ : Blk} {B : Nat → Blk} {n : Nat} : Le RU (some (σ, vb B, n)) (some (σ, B, n)) := le_ret ⟨rfl, rfl, rfl⟩
theorem le_t {v : Int} {σ : Blk} {B : Nat → Blk} {n : Nat} : Le RT (some (v, σ, vb B, n)) (some (v, σ, B, n)) := le_ret ⟨rfl, rfl, rfl, rfl⟩
theorem le_jp {δ δ' α' γ' : Type} {S : γ' → α' → Prop} {K : δ} {K' : δ'} {f : δ → Option α'} {f' : δ' → Option γ'} (P : δ → δ' → Prop) (hK : P K K') (hf : ∀ j j', P j j' → Le S (f j) (f' j')) : Le S (jp K f) (jp K' f') := hf K K' hK
theorem le_cbU {f f' : Option Blk} {B : Nat → Blk} {k : Nat} {K : (Nat → Blk) → Option α} {K' : (Nat → Blk) → Option γ} (h : LeB f f') (hk : ∀ β, Le R (K (vb (ub B k β))) (K' (ub B k β))) : Le R (cbU f (vb B) k K) (cbU f' B k K') := le_bind h fun x y e => by
  subst e
  rw [← vb_ub]
  exact hk y
theorem le_cbW {f f' : Option (Int × Blk)} {B : Nat → Blk} {k : Nat} {K : Int → (Nat → Blk) → Option α} {K' : Int → (Nat → Blk) → Option γ} (h : LeW f f') (hk : ∀ v β, Le R (K v (vb (ub B k β))) (K' v (ub B k β))) : Le R (cbW f (vb B) k K) (cbW f' B k K') := le_bind h fun x y e => by
  obtain ⟨e1, e2⟩ := e
  show Le R (K x.1 (ub (vb B) k x.2)) (K' y.1 (ub B k y.2))
  rw [← e1, ← e2, ← vb_ub]
  exact hk _ _
theorem le_cbV {f f' : Option (Int × Blk)} {B : Nat → Blk} {k : Nat} {K : Int → (Nat → Blk) → Option α} {K' : Int → (Nat → Blk) → Option γ} (h : Le RV2 f f') (hk : ∀ v β, (v = -1 ∨ (0 ≤ v ∧ v < 30)) → Le R (K v (vb (ub B k β))) (K' v (ub B k β))) : Le R (cbW f (vb B) k K) (cbW f' B k K') := le_bind h fun x y e => by
  obtain ⟨e1, e2, e3⟩ := e
  show Le R (K x.1 (ub (vb B) k x.2)) (K' y.1 (ub B k y.2))
  rw [e1, ← e3, ← vb_ub]
  exact hk _ _ e2
theorem le_bp {B : Nat → Blk} {q i k : Nat} {a : Int} {K : (Nat → Blk) → Option α} {K' : (Nat → Blk) → Option γ} (hi : i < 6) (h : Le R (K (vb (ub B q (up2 (B q) i k a)))) (K' (ub B q (up2 (B q) i k a)))) : Le R (bp (vb B) q i k a K) (bp B q i k a K') := by
  rw [vb_ub, vu_lo hi] at h
  exact h
theorem le_bwT {B : Nat → Blk} {q r : Nat} {j v : Int} {K : (Nat → Blk) → Option α} {K' : (Nat → Blk) → Option γ} (h : ∀ k : Nat, j = (k : Int) → k < 40 → Le R (K (vb (ub B q (up2 (B q) (10 + 3 * r) k v)))) (K' (ub B q (up2 (B q) (10 + 3 * r) k v)))) : Le R (bw (vb B) q (44 + r) 40 j v K) (cbU (g_X4_store (B q) (10 + 3 * r) 40 j v) B q K') := le_sw fun k e hk => by
  have h1 := h k e hk
  unfold cbU
  rw [st_t k e hk, bs]
  rw [vb_ub, vu_tx] at h1
  exact h1
theorem le_bd3 {f f' : Option Up} {K : Blk → (Nat → Blk) → Nat → Option α} {K' : Blk → (Nat → Blk) → Nat → Option γ} (h : Le RU f f') (hk : ∀ σ B n, Le R (K σ (vb B) n) (K' σ B n)) : Le R (bd3 f K) (bd3 f' K') := le_bind h fun x y e => by
  obtain ⟨e1, e2, e3⟩ := e
  show Le R (K x.1 x.2.1 x.2.2) (K' y.1 y.2.1 y.2.2)
  rw [← e1, ← e2, ← e3]
  exact hk _ _ _
theorem le_bd3r {σ0 : Blk} {f f' : Option Up} {K : Blk → (Nat → Blk) → Nat → Option α} {K' : Blk → (Nat → Blk) → Nat → Option γ} (h : Le (RUr σ0) f f') (hk : ∀ σ B n, σ 0 = σ0 0 → Le R (K σ (vb B) n) (K' σ B n)) : Le R (bd3 f K) (bd3 f' K') := le_bind h fun x y e => by
  obtain ⟨⟨e1, e2, e3⟩, e4⟩ := e
  show Le R (K x.1 x.2.1 x.2.2) (K' y.1 y.2.1 y.2.2)
  rw [← e1, ← e2, ← e3]
  exact hk _ _ _ e4
theorem le_bd4 {f f' : Option (Int × Up)} {K : Int → Blk → (Nat → Blk) → Nat → Option α} {K' : Int → Blk → (Nat → Blk) → Nat → Option γ} (h : Le RT f f') (hk : ∀ v σ B n, Le R (K v σ (vb B) n) (K' v σ B n)) : Le R (bd4 f K) (bd4 f' K') := le_bind h fun x y e => by
  obtain ⟨e0, e1, e2, e3⟩ := e
  show Le R (K x.1 x.2.1 x.2.2.1 x.2.2.2) (K' y.1 y.2.1 y.2.2.1 y.2.2.2)
  rw [← e0, ← e1, ← e2, ← e3]
  exact hk _ _ _ _
theorem le_cpW {f f' : Option (Int × Blk)} {σ : Blk} {K : Int → Blk → Option α} {K' : Int → Blk → Option γ} (h : LeE f f') (hk : ∀ v π, Le R (K v π) (K' v π)) : Le R (cpW f σ K) (cpW f' σ K') := le_bind h fun x y e => by
  subst e
  exact hk _ _
theorem le_nB {B : Nat → Blk} {nb : Nat} {K : (Nat → Blk) → Nat → Option α} {K' : (Nat → Blk) → Nat → Option γ} (h : ∀ β, Le R (K (vb (ub B nb β)) (nb + 1)) (K' (ub B nb β) (nb + 1))) : Le R (nB (vb B) nb K) (nBn B nb K') := by
  unfold nB nBn
  refine le_bindB (fun x hx => ?_) fun β => ?_
  · unfold f_X0_init at hx
    obtain ⟨y, h1, h2⟩ := Option.bind_eq_some_iff.mp hx
    exact ⟨y, h1, Option.some.inj h2⟩
  · rw [← vb_ub]
    exact h β
theorem le_fm2 {a : Int} {K : Int → Option α} {K' : Int → Option γ} (h : 0 ≤ a → Le R (K (a % 6)) (K' (a % 6))) : Le R ((rm_ a 6).bind K) ((fm a 6).bind K') := le_rm fun h1 => by
  unfold fm
  rw [if_pos ⟨h1, by decide⟩, bs]
  exact h h1
theorem le_rowOf {β : Blk} {a : Int} {K : Int → Option α} {K' : Int → Option γ} (h : ∀ v, (v = -1 ∨ (0 ≤ v ∧ v < 30)) → Le R (K v) (K' v)) : Le R ((f_X0_rowOf (VW β) a).bind K) ((g_X0_rowOf β a).bind K') := le_bind b_rowOf fun x y e => by
  obtain ⟨e1, e2⟩ := e
  subst e1
  exact h _ e2
theorem le_nul {v : Int} {F1 F2 : Option α} {G1 : Option γ} {G2 : Nat → Option γ} (hv : v = -1 ∨ (0 ≤ v ∧ v < 30)) (h1 : v = -1 → Le R F1 G1) (h2 : ∀ r : Nat, v = (r : Int) → r < 30 → Le R F2 (G2 r)) : Le R (if v ≠ (-1) then F2 else F1) (if v < 0 then G1 else gk v 30 G2) := by
  rcases hv with e | e
  · rw [if_neg (by omega), if_pos (by omega)]
    exact h1 e
  · rw [if_pos (by omega), if_neg (by omega), gk_t (q := v.toNat) (by omega) (by omega)]
    exact h2 _ (by omega) (by omega)
theorem le_nulE {v : Int} {F1 F2 : Option α} {G1 : Option γ} {G2 : Nat → Option γ} (hv : v = -1 ∨ (0 ≤ v ∧ v < 30)) (h1 : v = -1 → Le R F1 G1) (h2 : ∀ r : Nat, v = (r : Int) → r < 30 → Le R F2 (G2 r)) : Le R (if v = (-1) then F1 else F2) (if v < 0 then G1 else gk v 30 G2) := by
  rcases hv with e | e
  · rw [if_pos e, if_pos (by omega)]
    exact h1 e
  · rw [if_neg (by omega), if_neg (by omega), gk_t (q := v.toNat) (by omega) (by omega)]
    exact h2 _ (by omega) (by omega)
theorem le_nmR {v : Int} {F : Option α} {G : Int → Option γ} (h : Le R F (G v)) : Le R F (nm v G) := h
theorem le_eqn {a b : Nat} {F : Option α} {G : Option γ} (e : a = b) (h : Le R F G) : Le R F (eqn a b G) := by
  unfold eqn
  rw [if_pos e]
  exact h
end LEU
theorem b_recR {σ : Blk} {B : Nat → Blk} {nb k : Nat} : Le (RUr σ) (f_X1_record σ (vb B) nb k) (g_X1_record σ B nb k) := by
  unfold f_X1_record g_X1_record
  refine le_ck2 fun _ => ?_
  refine le_fm2 fun _ => ?_
  refine le_ld2 fun q e hq => ?_
  refine le_jp (fun K K' => ∀ (σ5 : Blk) (B6 : Nat → Blk) (N7 : Nat), σ5 0 = σ 0 → Le (RUr σ) (K σ5 (vb B6) N7) (K' σ5 B6 N7)) (fun σ5 B6 N7 h0 => ?_) (fun j j' hj => ?_)
  · have e0 : ∀ (k : Nat) (v : Int), up2 σ5 6 k v 0 = σ 0 := fun k v => (up2_ne (show (0 : Nat) ≠ 6 by decide)).trans h0
    refine le_ld2 fun q8 e8 hq8 => ?_
    refine le_gk2 fun q9 e9 hq9 => ?_
    refine le_lk2 fun h1 => ?_
    refine le_ne2 fun h2 => ?_
    refine le_cbU b_copy fun β => ?_
    refine le_ite (fun _ => ?_) (fun _ => ?_)
    · refine le_ck2 fun _ => ?_
      refine le_rm2 fun _ => ?_
      refine le_pf2 ?_
      exact le_ret ⟨⟨rfl, rfl, rfl⟩, e0 2 ((σ5 6 2 + 1) % 6)⟩
    · refine le_ck2 fun _ => ?_
      refine le_pf2 ?_
      exact le_ret ⟨⟨rfl, rfl, rfl⟩, e0 1 (σ5 6 1 + 1)⟩
  · refine le_ite (fun _ => ?_) (fun _ => hj _ _ _ rfl)
    refine le_nB fun β => ?_
    refine le_ck2 fun _ => ?_
    refine le_sw2 fun q2 e2 hq2 => ?_
    exact hj _ _ _ (up2_ne (show (0 : Nat) ≠ 7 by decide))
theorem b_record {σ : Blk} {B : Nat → Blk} {nb k : Nat} : Le RU (f_X1_record σ (vb B) nb k) (g_X1_record σ B nb k) := fun x hx => by
  obtain ⟨y, h1, h2, -⟩ := b_recR x hx
  exact ⟨y, h1, h2⟩
theorem b_setHead {σ : Blk} {B : Nat → Blk} {nb : Nat} {a : Int} : Le RT (f_X4_setHead σ (vb B) nb a) (g_X4_setHead σ B nb a) := by
  unfold f_X4_setHead g_X4_setHead
  refine le_ite (fun _ => le_t) (fun _ => ?_)
  refine le_ite (fun _ => ?_) (fun _ => le_t)
  refine le_gk2 fun q e hq => ?_
  refine le_bd3 b_record fun σ2 B3 N4 => ?_
  refine le_gk2 fun q5 e5 hq5 => ?_
  rw [vb_lo (show 0 < 6 by omega)]
  refine le_nm2 ?_
  refine le_gk2 fun q7 e7 hq7 => ?_
  refine le_bp (by omega) ?_
  exact le_t
theorem b_setPiece {σ : Blk} {B : Nat → Blk} {nb : Nat} {a : Int} : Le RT (f_X4_setPiece σ (vb B) nb a) (g_X4_setPiece σ B nb a) := by
  unfold f_X4_setPiece g_X4_setPiece
  refine le_ite (fun _ => le_t) (fun _ => ?_)
  refine le_ite (fun _ => ?_) (fun _ => le_t)
  refine le_gk2 fun q e hq => ?_
  refine le_bd3 b_record fun σ2 B3 N4 => ?_
  refine le_gk2 fun q5 e5 hq5 => ?_
  rw [vb_lo (show 0 < 6 by omega)]
  refine le_nm2 ?_
  refine le_gk2 fun q7 e7 hq7 => ?_
  refine le_bp (by omega) ?_
  exact le_t
theorem b_set {σ : Blk} {B : Nat → Blk} {nb : Nat} {a1 a2 : Int} : Le RT (f_X4_set σ (vb B) nb a1 a2) (g_X4_set σ B nb a1 a2) := by
  unfold f_X4_set g_X4_set
  refine le_ite (fun _ => ?_) (fun _ => ?_)
  · refine le_ite (fun _ => le_t) (fun _ => ?_)
    exact le_bd4 b_setPiece fun v σ B n => le_t
  · exact le_bd4 b_setHead fun v σ B n => le_t
theorem b_take {σ : Blk} {B : Nat → Blk} {nb : Nat} : Le RU (f_X4_takeTrial σ (vb B) nb) (g_X4_takeTrial σ B nb) := by
  unfold f_X4_takeTrial g_X4_takeTrial
  refine le_gk2 fun q e hq => ?_
  refine le_gk2 fun q2 e2 hq2 => ?_
  refine le_pf2 ?_
  refine le_pf2 ?_
  exact le_u
abbrev JU (K K' : Blk → (Nat → Blk) → Nat → Option (Int × Up)) : Prop := ∀ (σ : Blk) (B : Nat → Blk) (n : Nat), Le RT (K σ (vb B) n) (K' σ B n)
theorem b_padL {q4 r : Nat} {v : Int} (hr : r < 30) {j j' : Blk → (Nat → Blk) → Nat → Option (Int × Up)} (hj : JU j j') : ∀ (n : Nat) (x : Int) (σ : Blk) (B : Nat → Blk) (N : Nat), Le RT (f_X4_writePadRow_L49 q4 (r : Int) v j n x σ (vb B) N) (g_X4_writePadRow_L62 q4 r v j' n x σ B N) := by
  intro n
  induction n with
  | zero => intro x σ B N; exact le_none
  | succ n ih =>
    intro x σ B N
    rw [f_X4_writePadRow_L49, g_X4_writePadRow_L62]
    refine le_lk2 fun h1 => ?_
    refine le_lr (β := B q4) (k := 1) (by omega) rfl fun _ => ?_
    refine le_ite (fun _ => hj σ B N) (fun _ => ?_)
    rw [gd_nat hr, Int.toNat_natCast]
    refine le_ck2 fun _ => ?_
    refine le_at2 fun q e hq => ?_
    refine le_ck2 fun _ => ?_
    refine le_bwT fun k ek hk => ?_
    refine le_ck2 fun _ => ?_
    exact ih _ _ _ _
theorem b_writePadRow {σ : Blk} {B : Nat → Blk} {nb : Nat} {a : Int} : Le RT (f_X4_writePadRow σ (vb B) nb a) (g_X4_writePadRow σ B nb a) := by
  unfold f_X4_writePadRow g_X4_writePadRow
  refine le_gk2 fun q1 e1 hq1 => ?_
  refine le_gk2 fun q2 e2 hq2 => ?_
  refine le_ne2 fun h1 => ?_
  refine le_cbU b_copy fun β => ?_
  refine le_gk2 fun q4 e4 hq4 => ?_
  refine le_at2 fun q5 e5 hq5 => ?_
  refine le_at2 fun q6 e6 hq6 => ?_
  refine le_cbV b_layRow fun v β2 hv => ?_
  refine le_nul hv (fun _ => le_t) (fun r e hr => ?_)
  subst e
  refine le_at2 fun q7 e7 hq7 => ?_
  refine le_jp JU (fun σ B n => ?_) (fun j j' hj => ?_)
  · exact le_bd3 b_take fun σ B n => le_t
  · exact b_padL hr hj _ _ _ _ _
theorem b_writeL {j j' : Int → Blk → (Nat → Blk) → Nat → Option (Int × Up)} (hj : ∀ x, JU (j x) (j' x)) : ∀ (n : Nat) (x : Int) (σ : Blk) (B : Nat → Blk) (N : Nat), Le RT (f_X4_write_L27 j n x σ (vb B) N) (g_X4_write_L27 j' n x σ B N) := by
  intro n
  induction n with
  | zero => intro x σ B N; exact le_none
  | succ n ih =>
    intro x σ B N
    rw [f_X4_write_L27, g_X4_write_L27]
    refine le_ite (fun _ => hj x σ B N) (fun _ => ?_)
    refine le_bd4 b_writePadRow fun v σ B n => ?_
    refine le_ite (fun _ => hj x σ B n) (fun _ => ?_)
    refine le_ck2 fun _ => ?_
    exact ih _ _ _ _
theorem b_write {σ : Blk} {B : Nat → Blk} {nb : Nat} : Le RT (f_X4_write σ (vb B) nb) (g_X4_write σ B nb) := by
  unfold f_X4_write g_X4_write
  refine le_cpW b_read fun v σ2 => ?_
  refine le_ite (fun _ => ?_) (fun _ => le_t)
  refine le_gk2 fun q1 e1 hq1 => ?_
  refine le_bd3 b_record fun σ3 B3 N3 => ?_
  refine le_jp (fun K K' => ∀ x, JU (K x) (K' x)) (fun x σ B n => ?_) (fun j j' hj => ?_)
  · refine le_pf2 ?_
    exact le_t
  · exact b_writeL hj _ _ _ _ _
theorem b_append {σ : Blk} {B : Nat → Blk} {nb : Nat} {a1 a2 : Int} : Le RT (f_X4_append σ (vb B) nb a1 a2) (g_X4_append σ B nb a1 a2) := by
  unfold f_X4_append g_X4_append
  refine le_gk2 fun q1 e1 hq1 => ?_
  refine le_rowOf fun v hv => ?_
  refine le_nul hv (fun _ => le_t) (fun r e hr => ?_)
  subst e
  refine le_ite (fun _ => le_t) (fun _ => ?_)
  refine le_ite (fun _ => ?_) (fun _ => le_t)
  refine le_gk fun q3 e3 hq3 => ?_
  obtain rfl : q3 = q1 := by omega
  refine le_lr (β := B q3) (k := 1) (by omega) rfl fun _ => ?_
  refine le_nmR ?_
  refine le_ite (fun _ => ?_) (fun _ => le_t)
  refine le_gk2 fun q5 e5 hq5 => ?_
  refine le_gk2 fun q6 e6 hq6 => ?_
  refine le_ne2 fun h1 => ?_
  refine le_cbU b_copy fun β => ?_
  refine le_gk2 fun q8 e8 hq8 => ?_
  refine le_ck2 fun _ => ?_
  refine le_cbV b_layRow fun v β2 hv2 => ?_
  refine le_nul hv2 (fun _ => le_t) (fun r2 e hr2 => ?_)
  subst e
  refine le_gk fun q9 e9 hq9 => ?_
  obtain rfl : q9 = q8 := by omega
  rw [gd_nat hr2, Int.toNat_natCast]
  refine le_bwT fun k ek hk => ?_
  refine le_gk2 fun q10 e10 hq10 => ?_
  refine le_bd3 b_record fun σ3 B3 N3 => ?_
  refine le_bd3 b_take fun σ4 B4 N4 => ?_
  refine le_ck2 fun _ => ?_
  exact le_t
theorem b_delete {σ : Blk} {B : Nat → Blk} {nb : Nat} {a1 : Int} : Le RT (f_X4_delete σ (vb B) nb a1) (g_X4_delete σ B nb a1) := by
  unfold f_X4_delete g_X4_delete
  refine le_gk2 fun q1 e1 hq1 => ?_
  refine le_rowOf fun v hv => ?_
  refine le_nul hv (fun _ => le_t) (fun r e hr => ?_)
  subst e
  refine le_gk2 fun q3 e3 hq3 => ?_
  refine le_bd3r b_recR fun σ3 B3 N3 h0 => ?_
  rw [h0]
  refine le_gk2 fun q4 e4 hq4 => ?_
  obtain rfl : q4 = q1 := by omega
  refine le_eqn rfl ?_
  refine le_bindI (b_cellsOf hr) fun w => ?_
  refine le_gk2 fun q5 e5 hq5 => ?_
  obtain rfl : q5 = q4 := by omega
  refine le_eqn rfl ?_
  refine le_cbU (b_removeRow hr) fun β => ?_
  exact le_t
theorem b_tryPacking {σ : Blk} {B : Nat → Blk} {nb : Nat} {a1 : Int} : Le RT (f_X4_tryPacking σ (vb B) nb a1) (g_X4_tryPacking σ B nb a1) := by
  unfold f_X4_tryPacking g_X4_tryPacking
  refine le_gk2 fun q1 e1 hq1 => ?_
  refine le_gk2 fun q2 e2 hq2 => ?_
  refine le_ne2 fun h1 => ?_
  refine le_cbU b_copy fun β => ?_
  refine le_gk2 fun q4 e4 hq4 => ?_
  refine le_bp (by omega) ?_
  refine le_gk2 fun q6 e6 hq6 => ?_
  refine le_cbW b_packAll fun v β2 => ?_
  exact le_bindE le_rf fun _ => le_t
theorem b_pack {σ : Blk} {B : Nat → Blk} {nb : Nat} : Le RT (f_X4_pack σ (vb B) nb) (g_X4_pack σ B nb) := by
  unfold f_X4_pack g_X4_pack
  refine le_gk2 fun q1 e1 hq1 => ?_
  rw [vb_lo (show 0 < 6 by omega)]
  refine le_bd4 b_tryPacking fun v σ2 B2 N2 => ?_
  refine le_ite (fun _ => ?_) (fun _ => le_t)
  refine le_gk2 fun q6 e6 hq6 => ?_
  refine le_bd3 b_record fun σ3 B3 N3 => ?_
  refine le_bd3 b_take fun σ4 B4 N4 => ?_
  refine le_gk2 fun q13 e13 hq13 => ?_
  refine le_bindI b_inUse fun w => ?_
  exact le_t
theorem b_row {σ : Blk} {B : Nat → Blk} {nb : Nat} {a1 a2 : Int} : LeI (f_X4_row σ (vb B) nb a1 a2) (g_X4_row σ B nb a1 a2) := by
  unfold f_X4_row g_X4_row
  refine le_gk2 fun q1 e1 hq1 => ?_
  refine le_rowOf fun v hv => ?_
  refine le_nul hv (fun _ => le_rf) (fun r e hr => ?_)
  subst e
  have hg : ∀ {F : Nat → Option Int} {G : Option Int}, LeI (F q1) G → LeI (gk (σ 0 3) nb F) G := fun h => le_gk fun q e hq => by
    obtain rfl : q = q1 := by omega
    exact h
  refine le_ite (fun _ => ?_) (fun _ => ?_)
  · refine hg (le_lr (β := B q1) (k := 1) (by omega) rfl fun _ => ?_)
    exact le_rf
  refine le_ite (fun _ => ?_) (fun _ => ?_)
  · refine hg (le_lr (β := B q1) (k := 2) (by omega) rfl fun _ => ?_)
    exact le_rf
  refine le_ite (fun _ => ?_) (fun _ => ?_)
  · refine hg (le_lr (β := B q1) (k := 2) (by omega) rfl fun _ => ?_)
    exact le_rf
  refine le_ite (fun _ => ?_) (fun _ => ?_)
  · refine hg (le_lr (β := B q1) (k := 3) (by omega) rfl fun _ => ?_)
    exact le_rf
  refine le_ite (fun _ => ?_) (fun _ => ?_)
  · refine hg (le_lr (β := B q1) (k := 3) (by omega) rfl fun _ => ?_)
    exact le_rf
  refine le_ite (fun _ => ?_) (fun _ => ?_)
  · refine hg (le_bindI b_hasMoved fun w => ?_)
    exact le_rf
  refine le_ite (fun _ => ?_) (fun _ => ?_)
  · refine le_gk2 fun q9 e9 hq9 => ?_
    obtain rfl : q9 = q1 := by omega
    refine hg (le_lr (β := B q9) (k := 3) (by omega) rfl fun _ => ?_)
    refine le_atB (β := B q9) (by omega) fun q2 e2 hq2 => ?_
    exact le_rf
  refine le_ite (fun _ => ?_) (fun _ => ?_)
  · refine hg (le_lr (β := B q1) (k := 4) (by omega) rfl fun _ => ?_)
    exact le_rf
  refine le_ite (fun _ => ?_) (fun _ => ?_)
  · exact hg (le_bindI (b_cost hr) fun w => le_rf)
  refine le_ite (fun _ => ?_) (fun _ => le_rf)
  refine le_gk2 fun q9 e9 hq9 => ?_
  obtain rfl : q9 = q1 := by omega
  refine le_eqn rfl ?_
  exact le_bindI (b_cellsOf hr) fun w => le_rf
theorem b_letter {σ : Blk} {B : Nat → Blk} {nb : Nat} {a1 a2 : Int} : LeI (f_X4_letter σ (vb B) nb a1 a2) (g_X4_letter σ B nb a1 a2) := by
  unfold f_X4_letter g_X4_letter
  refine le_gk2 fun q1 e1 hq1 => ?_
  refine le_rowOf fun v hv => ?_
  refine le_nulE hv (fun _ => le_rf) (fun r e hr => ?_)
  subst e
  refine le_ite (fun _ => le_rf) (fun _ => ?_)
  refine le_gk fun q3 e3 hq3 => ?_
  obtain rfl : q3 = q1 := by omega
  refine le_lr (β := B q3) (k := 1) (by omega) rfl fun _ => ?_
  refine le_ite (fun _ => ?_) (fun _ => le_rf)
  refine le_gk fun q4 e4 hq4 => ?_
  obtain rfl : q4 = q3 := by omega
  rw [gd_nat hr, Int.toNat_natCast]
  refine le_atT (β := B q4) fun q e hq => ?_
  exact le_rf
theorem b_piece {σ : Blk} {B : Nat → Blk} {nb : Nat} {a1 a2 a3 : Int} : LeI (f_X4_piece σ (vb B) nb a1 a2 a3) (g_X4_piece σ B nb a1 a2 a3) := by
  unfold f_X4_piece g_X4_piece
  refine le_gk2 fun q1 e1 hq1 => ?_
  refine le_rowOf fun v hv => ?_
  refine le_nulE hv (fun _ => le_rf) (fun r e hr => ?_)
  subst e
  refine le_ite (fun _ => le_rf) (fun _ => ?_)
  refine le_gk fun q3 e3 hq3 => ?_
  obtain rfl : q3 = q1 := by omega
  refine le_lr (β := B q3) (k := 4) (by omega) rfl fun _ => ?_
  refine le_ite (fun _ => ?_) (fun _ => le_rf)
  refine le_gk fun q4 e4 hq4 => ?_
  obtain rfl : q4 = q3 := by omega
  rw [gd_nat hr, Int.toNat_natCast]
  refine le_atS (β := B q4) hr fun q e hq => ?_
  refine le_ite (fun _ => le_rf) (fun _ => ?_)
  refine le_ite (fun _ => le_rf) (fun _ => ?_)
  refine le_ite (fun _ => ?_) (fun _ => le_rf)
  refine le_gk2 fun q7 e7 hq7 => ?_
  refine le_atB (β := B q7) (by omega) fun q2 e2 hq2 => ?_
  exact le_rf
theorem b_page {σ : Blk} {B : Nat → Blk} {nb : Nat} {a1 a2 : Int} : LeI (f_X4_page σ (vb B) nb a1 a2) (g_X4_page σ B nb a1 a2) := by
  unfold f_X4_page g_X4_page
  refine le_ite (fun _ => le_rf) (fun _ => ?_)
  refine le_ite (fun _ => ?_) (fun _ => le_rf)
  refine le_ite (fun _ => ?_) (fun _ => ?_)
  · refine le_gk2 fun q1 e1 hq1 => ?_
    exact le_atB (β := B q1) (by omega) fun q2 e2 hq2 => le_rf
  refine le_ite (fun _ => ?_) (fun _ => ?_)
  · refine le_gk2 fun q1 e1 hq1 => ?_
    exact le_bindI b_slotsOf fun _ => le_rf
  refine le_ite (fun _ => ?_) (fun _ => ?_)
  · refine le_gk2 fun q1 e1 hq1 => ?_
    exact le_bindI b_thingsOn fun _ => le_rf
  refine le_ite (fun _ => ?_) (fun _ => ?_)
  · refine le_gk2 fun q1 e1 hq1 => ?_
    exact le_bindI b_thingsOn fun _ => le_rf
  refine le_ite (fun _ => ?_) (fun _ => ?_)
  · refine le_gk2 fun q1 e1 hq1 => ?_
    exact le_bindI b_thingsOn fun _ => le_rf
  refine le_ite (fun _ => ?_) (fun _ => le_rf)
  refine le_gk2 fun q1 e1 hq1 => ?_
  exact le_bindI b_thingsOn fun _ => le_rf
theorem b_slot {σ : Blk} {B : Nat → Blk} {nb : Nat} {a1 a2 a3 : Int} : LeI (f_X4_slot σ (vb B) nb a1 a2 a3) (g_X4_slot σ B nb a1 a2 a3) := by
  unfold f_X4_slot g_X4_slot
  refine le_ite (fun _ => le_rf) (fun _ => ?_)
  refine le_ite (fun _ => le_rf) (fun _ => ?_)
  refine le_ite (fun _ => le_rf) (fun _ => ?_)
  refine le_gk2 fun q1 e1 hq1 => ?_
  refine le_bindI b_slotsOf fun w => ?_
  refine le_ite (fun _ => ?_) (fun _ => le_rf)
  refine le_ck2 fun _ => ?_
  refine le_ite (fun _ => ?_) (fun _ => ?_)
  · refine le_gk2 fun q2 e2 hq2 => ?_
    exact le_atB (β := B q2) (by omega) fun q3 e3 hq3 => le_rf
  refine le_ite (fun _ => ?_) (fun _ => ?_)
  · refine le_gk2 fun q2 e2 hq2 => ?_
    refine le_atB (β := B q2) (by omega) fun q3 e3 hq3 => ?_
    refine le_ite (fun _ => ?_) (fun _ => le_rf)
    refine le_gk2 fun q4 e4 hq4 => ?_
    exact le_atB (β := B q4) (by omega) fun q3 e3 hq3 => le_rf
  refine le_ite (fun _ => ?_) (fun _ => le_rf)
  refine le_gk2 fun q2 e2 hq2 => ?_
  exact le_atB (β := B q2) (by omega) fun q3 e3 hq3 => le_rf
theorem b_count {σ : Blk} {B : Nat → Blk} {nb : Nat} {a1 : Int} : LeI (f_X4_count σ (vb B) nb a1) (g_X4_count σ B nb a1) := by
  unfold f_X4_count g_X4_count
  refine le_ite (fun _ => ?_) (fun _ => ?_)
  · refine le_gk2 fun q1 e1 hq1 => ?_
    exact le_ret rfl
  refine le_ite (fun _ => ?_) (fun _ => ?_)
  · refine le_gk2 fun q1 e1 hq1 => ?_
    exact le_bindI b_inUse fun _ => le_rf
  refine le_ite (fun _ => ?_) (fun _ => ?_)
  · refine le_gk2 fun q1 e1 hq1 => ?_
    exact le_bindI b_inAll fun _ => le_rf
  refine le_ite (fun _ => ?_) (fun _ => ?_)
  · refine le_gk2 fun q1 e1 hq1 => ?_
    exact le_bindI b_inAll fun _ => le_rf
  refine le_ite (fun _ => ?_) (fun _ => ?_)
  · refine le_gk2 fun q1 e1 hq1 => ?_
    exact le_bindI b_freeAll fun _ => le_rf
  refine le_ite (fun _ => ?_) (fun _ => ?_)
  · refine le_gk2 fun q1 e1 hq1 => ?_
    exact le_bindI b_costInAll fun _ => le_rf
  refine le_ite (fun _ => ?_) (fun _ => ?_)
  · refine le_gk2 fun q1 e1 hq1 => ?_
    exact le_bindI b_letters fun _ => le_rf
  refine le_ite (fun _ => ?_) (fun _ => ?_)
  · refine le_gk2 fun q1 e1 hq1 => ?_
    rw [vb_lo (show 0 < 6 by omega)]
    refine le_ite (fun _ => ?_) (fun _ => le_rf)
    refine le_gk2 fun q2 e2 hq2 => ?_
    exact le_bindI b_greatest fun _ => le_rf
  refine le_ite (fun _ => ?_) (fun _ => ?_)
  · refine le_gk2 fun q1 e1 hq1 => ?_
    exact le_ret rfl
  refine le_ite (fun _ => ?_) (fun _ => le_rf)
  refine le_gk2 fun q1 e1 hq1 => ?_
  exact le_ret rfl
theorem b_key {σ : Blk} {B : Nat → Blk} {nb : Nat} {a1 : Int} : LeI (f_X4_key σ (vb B) nb a1) (g_X4_key σ B nb a1) := by
  have key : ∀ (n : Nat) (x y : Int), LeI (f_X4_key_L4 σ (vb B) nb a1 n x y) (g_X4_key_L4 σ B nb a1 n x y) := by
    intro n
    induction n with
    | zero => intro x y; exact le_none
    | succ n ih =>
      intro x y
      rw [f_X4_key_L4, g_X4_key_L4]
      refine le_ite (fun _ => le_rf) (fun _ => ?_)
      refine le_gk2 fun q1 e1 hq1 => ?_
      refine le_rowOf fun v hv => ?_
      refine le_jp (fun K K' => ∀ x, LeI (K x) (K' x)) (fun z => ?_) (fun j j' hj => ?_)
      · refine le_ck2 fun _ => ?_
        exact ih _ _
      · refine le_nulE hv (fun _ => hj _) (fun r e hr => ?_)
        refine le_ite (fun _ => ?_) (fun _ => le_rf)
        refine le_ck2 fun _ => ?_
        exact hj _
  exact key _ _ _
theorem b_ifPacked {σ : Blk} {B : Nat → Blk} {nb : Nat} {a1 a2 : Int} : Le RT (f_X4_ifPacked σ (vb B) nb a1 a2) (g_X4_ifPacked σ B nb a1 a2) := by
  unfold f_X4_ifPacked g_X4_ifPacked
  refine le_ite (fun _ => le_t) (fun _ => ?_)
  refine le_ite (fun _ => le_t) (fun _ => ?_)
  refine le_ite (fun _ => le_t) (fun _ => ?_)
  refine le_ite (fun _ => ?_) (fun _ => le_t)
  refine le_bd4 b_tryPacking fun v σ2 B2 N2 => ?_
  refine le_ite (fun _ => ?_) (fun _ => le_t)
  refine le_ite (fun _ => ?_) (fun _ => ?_)
  · refine le_ite (fun _ => ?_) (fun _ => ?_)
    · refine le_gk2 fun q1 e1 hq1 => ?_
      exact le_bindI b_inAll fun _ => le_t
    · refine le_gk2 fun q1 e1 hq1 => ?_
      exact le_bindI b_inUse fun _ => le_t
  · refine le_gk2 fun q1 e1 hq1 => ?_
    exact le_bindI b_costInAll fun _ => le_t
theorem b_bestL : ∀ (n : Nat) (x y z : Int) (σ : Blk) (B : Nat → Blk) (N : Nat), Le RT (f_X4_bestHead_L20 n x y z σ (vb B) N) (g_X4_bestHead_L20 n x y z σ B N) := by
  intro n
  induction n with
  | zero => intro x y z σ B N; exact le_none
  | succ n ih =>
    intro x y z σ B N
    rw [f_X4_bestHead_L20, g_X4_bestHead_L20]
    refine le_ite (fun _ => le_t) (fun _ => ?_)
    refine le_bd4 b_tryPacking fun v σ2 B2 N2 => ?_
    refine le_jp (fun K K' => ∀ x y, Le RT (K x y) (K' x y)) (fun x y => ?_) (fun j j' hj => ?_)
    · refine le_ck2 fun _ => ?_
      exact ih _ _ _ _ _ _
    · refine le_ite (fun _ => hj _ _) (fun _ => ?_)
      refine le_gk2 fun q1 e1 hq1 => ?_
      refine le_bindI b_costInAll fun w => ?_
      refine le_jp (fun K K' => Le RT K K') (hj _ _) (fun j2 j2' hj2 => ?_)
      refine le_ite (fun _ => hj2) (fun _ => ?_)
      exact le_ite (fun _ => hj _ _) (fun _ => hj2)
theorem b_bestHead {σ : Blk} {B : Nat → Blk} {nb : Nat} : Le RT (f_X4_bestHead σ (vb B) nb) (g_X4_bestHead σ B nb) := by
  unfold f_X4_bestHead g_X4_bestHead
  refine le_gk2 fun q1 e1 hq1 => ?_
  rw [vb_lo (show 0 < 6 by omega)]
  refine le_ite (fun _ => ?_) (fun _ => le_t)
  exact b_bestL _ _ _ _ _ _ _
theorem b_mostL {a1 : Int} : ∀ (n : Nat) (x : Int) (σ : Blk) (B : Nat → Blk) (N : Nat), Le RT (f_X4_most_L16 a1 n x σ (vb B) N) (g_X4_most_L16 a1 n x σ B N) := by
  intro n
  induction n with
  | zero => intro x σ B N; exact le_none
  | succ n ih =>
    intro x σ B N
    rw [f_X4_most_L16, g_X4_most_L16]
    refine le_ite (fun _ => le_t) (fun _ => ?_)
    refine le_gk2 fun q5 e5 hq5 => ?_
    refine le_gk2 fun q6 e6 hq6 => ?_
    refine le_ne2 fun h1 => ?_
    refine le_cbU b_copy fun β => ?_
    refine le_gk2 fun q8 e8 hq8 => ?_
    refine le_cbV b_layRow fun v β2 hv => ?_
    refine le_nulE hv (fun _ => ?_) (fun r e hr => le_t)
    refine le_ck2 fun _ => ?_
    exact ih _ _ _ _
theorem b_most {σ : Blk} {B : Nat → Blk} {nb : Nat} {a1 : Int} : Le RT (f_X4_most σ (vb B) nb a1) (g_X4_most σ B nb a1) := by
  unfold f_X4_most g_X4_most
  refine le_ite (fun _ => le_t) (fun _ => ?_)
  refine le_ite (fun _ => ?_) (fun _ => le_t)
  exact b_mostL _ _ _ _ _
theorem b_signOf {a : Int64} {x : Int} : LeI (f_X4_signOf a x) (g_X4_signOf a x) := le_rf
theorem b_signsL {a : Int64} {j j' : Int → Option Int} (hj : ∀ x, LeI (j x) (j' x)) : ∀ (n : Nat) (x : Int), LeI (f_X4_signsIn_L2 a j n x) (g_X4_signsIn_L2 a j' n x) := by
  intro n
  induction n with
  | zero => intro x; exact le_none
  | succ n ih =>
    intro x
    rw [f_X4_signsIn_L2, g_X4_signsIn_L2]
    refine le_ite (fun _ => hj _) (fun _ => ?_)
    refine le_bindI b_signOf fun v => ?_
    refine le_ite (fun _ => hj _) (fun _ => ?_)
    refine le_bindI b_signOf fun w => ?_
    refine le_ite (fun _ => le_rf) (fun _ => ?_)
    refine le_ite (fun _ => ?_) (fun _ => le_rf)
    refine le_ck2 fun _ => ?_
    exact ih _
theorem b_signsIn {a : Int64} : LeI (f_X4_signsIn a) (g_X4_signsIn a) := by
  unfold f_X4_signsIn g_X4_signsIn
  refine le_jp (fun K K' => ∀ x, LeI (K x) (K' x)) (fun x => le_rf) (fun j j' hj => ?_)
  exact b_signsL hj _ _
theorem b_putL {a : Int64} {j j' : Blk → (Nat → Blk) → Nat → Option (Int × Up)} (hj : JU j j') : ∀ (n : Nat) (x : Int) (σ : Blk) (B : Nat → Blk) (N : Nat), Le RT (f_X4_put_L34 a j n x σ (vb B) N) (g_X4_put_L34 a j' n x σ B N) := by
  intro n
  induction n with
  | zero => intro x σ B N; exact le_none
  | succ n ih =>
    intro x σ B N
    rw [f_X4_put_L34, g_X4_put_L34]
    refine le_ite (fun _ => hj _ _ _) (fun _ => ?_)
    refine le_bindI b_signOf fun v => ?_
    refine le_st2 fun q e hq => ?_
    refine le_ck2 fun _ => ?_
    refine le_pf2 ?_
    refine le_ck2 fun _ => ?_
    exact ih _ _ _ _
theorem b_put {σ : Blk} {B : Nat → Blk} {nb : Nat} {a : Int64} : Le RT (f_X4_put σ (vb B) nb a) (g_X4_put σ B nb a) := by
  unfold f_X4_put g_X4_put
  refine le_bindI b_signsIn fun v => ?_
  refine le_ite (fun _ => ?_) (fun _ => le_t)
  refine le_ck2 fun _ => ?_
  refine le_ite (fun _ => ?_) (fun _ => le_t)
  refine le_ck2 fun _ => ?_
  refine le_jp JU (fun σ B n => le_t) (fun j j' hj => ?_)
  exact b_putL hj _ _ _ _ _
theorem b_wipe {σ : Blk} {B : Nat → Blk} {nb : Nat} : Le RT (f_X4_wipe σ (vb B) nb) (g_X4_wipe σ B nb) := by
  unfold f_X4_wipe g_X4_wipe
  refine le_nm2 ?_
  refine le_pf2 ?_
  exact le_t
