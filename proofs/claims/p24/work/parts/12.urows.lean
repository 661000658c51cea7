/-! rows for the whole object -/
abbrev Up : Type := Blk × (Nat → Blk) × Nat
def poT (V : Blk → (Nat → Blk) → Nat → Heap → Prop) (z : Int × Up) (v : Option Value) (H : Heap) : Prop := v = some (vI z.1) ∧ inR z.1 ∧ Rg z.2.1 ∧ RgB z.2.2.1 ∧ 2 ≤ z.2.2.2 ∧ V z.2.1 z.2.2.1 z.2.2.2 H
def poY (V : Blk → (Nat → Blk) → Nat → Heap → Prop) (z : Up) (v : Option Value) (H : Heap) : Prop := v = none ∧ Rg z.1 ∧ RgB z.2.1 ∧ 2 ≤ z.2.2 ∧ V z.1 z.2.1 z.2.2 H

def cbW {α : Type} (kc : Option (Int × Blk)) (B : Nat → Blk) (k : Nat) (K : Int → (Nat → Blk) → Option α) : Option α := kc.bind fun z => K z.1 (ub B k z.2)
def cbU {α : Type} (kc : Option Blk) (B : Nat → Blk) (k : Nat) (K : (Nat → Blk) → Option α) : Option α := kc.bind fun z => K (ub B k z)
def cpW {α : Type} (kc : Option (Int × Blk)) (σ : Blk) (K : Int → Blk → Option α) : Option α := kc.bind fun z => K z.1 (ipad σ z.2)
def bd3 {α : Type} (kc : Option Up) (K : Blk → (Nat → Blk) → Nat → Option α) : Option α := kc.bind fun z => K z.1 z.2.1 z.2.2
def bd4 {α : Type} (kc : Option (Int × Up)) (K : Int → Blk → (Nat → Blk) → Nat → Option α) : Option α := kc.bind fun z => K z.1 z.2.1 z.2.2.1 z.2.2.2
def bw {α : Type} (B : Nat → Blk) (k i nA : Nat) (j a : Int) (K : (Nat → Blk) → Option α) : Option α := (sw (B k) i nA j a).bind fun β => K (ub B k β)
def bp {α : Type} (B : Nat → Blk) (k i f : Nat) (a : Int) (K : (Nat → Blk) → Option α) : Option α := K (ub B k (up2 (B k) i f a))
def nBn {α : Type} (B : Nat → Blk) (nb : Nat) (K : (Nat → Blk) → Nat → Option α) : Option α := g_X0_init.bind fun β => K (ub B nb β) (nb + 1)
section UROWS
variable {p : Program} {l : Launch} {e : Env} {R : Room} {s : State} {m : MethodId} {args : Array Value} {below : List Frame} {meth : Method} {c : Code}
variable {cc : ByteArray} {nL : Nat} {own : String}
variable {α β : Type} {A : Nat → Prop} {Q : α → State → Prop} {k n : Nat} {I : Heap → Prop} {pc : Nat} {L L' : List (Nat × Value)} {st : List Value} {kk : Option α}
variable {G : Gt} {x y0 nb : Nat} {σ : Blk} {B : Nat → Blk} {V : Blk → (Nat → Blk) → Nat → Heap → Prop}
theorem u_gk {a : Int} {K : Nat → Option α} (ha : inR a) (h : ∀ q : Nat, q < nb → inR (q : Int) → Sim p l e R s m args below meth c nL A Q k n I pc L (.ref (ad x y0 q + 0) :: st) (K q)) : Sim p l e R s m args below meth c nL A Q k n I pc L (rv x y0 a :: st) (gk a nb K) := by
  unfold gk
  split
  · rename_i h1
    have e1 : rv x y0 a = .ref (ad x y0 a.toNat + 0) := by
      unfold rv bo
      rw [if_neg (by omega)]
      rfl
    rw [e1]
    exact h a.toNat (by omega) ⟨by omega, by have := ha.2; omega⟩
  · exact s_none
theorem s_putV (C : Cx p s m args meth c cc nL own) (hK : KK G s) {lay : Lay} {N b i ci : Nat} {σ σ' : Blk} {fs : (Nat → Int) → List Value} {Cn : String} {T : u_T} {ty0 : Nat → FieldType} {Nf ix : Nat} {v : Value} {J : Blk → Heap → Prop} (hJ : Wd G lay N b J) (hA : ∀ q, Ab b N q → A q) (hi : i < N) (ho : isO lay i ci fs) (hc : vwCl[ci]? = some (Cn, T, Nf)) (hin : ∀ w ∈ u_ws Cn T Nf, w ∈ lw_g) (hty : ∀ k, k < Nf → parseFieldDescriptor (T k).2.2.1 = some (ty0 k)) (hnm : ∀ a, a < Nf → ∀ b, b < Nf → a ≠ b → (T a).2.1 ≠ (T b).2.1) (f : Nat) (hf : f < Nf) (hw : Cond.fieldLink own ix (T f).1 (T f).2.1 (T f).2.2.1 ∈ lw_g) (hfin : (T f).2.2.2 = false) {ty : FieldType} (hd0 : parseFieldDescriptor (T f).2.2.1 = some ty) (hn : narrow ty v = v) (hfit : fits ty v = true) (hl : f < (fs (σ i)).length) (hset : fs (σ' i) = (fs (σ i)).set f v) (hoth : ∀ j, j ≠ i → σ' j = σ j) (hd : decode cc pc = .ok (.putfield ix, 3)) (h : Sim p l e R s m args below meth c nL A Q k n (J σ') (pc + 3) L st kk) : Sim p l e R s m args below meth c nL A Q k n (J σ) pc L (v :: .ref (b + i) :: st) kk := fun x hx H locs ls hH hS hL => by
  have hts := C.2.2.2.2.1
  have h0 := hJ.1 σ H hH i hi
  rw [ho (σ i)] at h0
  have hap := va_apart (own := own) hts hin ty0 hty hnm hK hc
  obtain ⟨r, h1, cell, q1, q2, q3, q4⟩ := h0
  have hr : r = (Cn, T, Nf) := Option.some.inj (h1.symm.trans hc)
  subst hr
  obtain ⟨hS0, hfc, kC, hkC, hkind⟩ := hK.1 ci _ hc
  obtain ⟨cf, kf, fi, fd, hi2, hsl⟩ := hS0 f hf
  have hlay := hts _ (hin _ (u_in_lay hf))
  unfold u_lay at hlay
  rw [if_neg (by rw [hfin]; decide)] at hlay
  have hst := (u_facts hfc hkC (u_lays hts hin hf) hi2).1
  have h6 := u_store hfc hkC hkind hlay hi2 hd0 hn hfit
  refine W.putK C.1 C.2.1 (f := fd) ⟨C.2.2.2.1, hts _ hw, ⟨_, _, _, hi2⟩, hst⟩ (by rw [q2]; exact h6) q1 q3 (by rw [hsl]; exact k2_hasslot (q4 f hf)) rfl rfl hd fun H' e1 e2 e3 => ?_
  rw [hsl] at e1 ⊢
  refine h x hx H' _ ls (hJ.2 σ σ' H H' hH (fun j hj => ?_) e2 (fun q hq => e3 q (by show q ≠ b + i; omega))) (hS.put e2 e3 (hA _ ⟨by omega, by omega⟩)) hL
  by_cases e : j = i
  · subst e
    rw [ho, hset]
    exact ⟨_, hc, t_OB.to (V := updV (vp_V (fs (σ j))) f v) ⟨_, e1, q2, q3, t_set q4 hap hf v⟩ (fun j _ => vp_updV_set hl v j)⟩
  · rw [hoth j e]
    exact (hJ.1 σ H hH j hj).kept (e3 (b + j) (by show b + j ≠ b + i; omega))
theorem u_putQ (C : Cx p s m args meth c cc nL own) (hK : KK G s) (hV : WV G x y0 V) (hA : ∀ q, Rx x y0 q → A q) {q f ix : Nat} {K : Blk → Option α} (hσ : Rg σ) (hq : inR (q : Int)) (hf : f = 3 ∨ f = 4) (hw : Cond.fieldLink own ix (TX4 f).1 (TX4 f).2.1 (TX4 f).2.2.1 ∈ lw_g) (hd : decode cc pc = .ok (.putfield ix, 3)) (h : ∀ σ', Rg σ' → Sim p l e R s m args below meth c nL A Q k n (V σ' B nb) (pc + 3) L st (K σ')) : Sim p l e R s m args below meth c nL A Q k n (V σ B nb) pc L (.ref (ad x y0 q + 0) :: .ref (x + 0) :: st) (pf σ 0 f (q : Int) K) := by
  have hAx : ∀ z, Ab x 9 z → A z := fun z hz => hA z (Or.inl ⟨hz.1, by have := hz.2; omega⟩)
  have e1 : rv x y0 (q : Int) = .ref (ad x y0 q + 0) := by
    unfold rv bo
    rw [if_neg (by omega)]
    rfl
  have hset : fsX x y0 (up2 σ 0 f (q : Int) 0) = (fsX x y0 (σ 0)).set f (.ref (ad x y0 q + 0)) := by
    rw [← e1]
    rcases hf with rfl | rfl
    · exact u_X_3 σ _
    · exact u_X_4 σ _
  rcases hf with rfl | rfl
  · exact s_putV (J := fun σ => V σ B nb) (ty := .object "OverflowRows$Book") C hK hV.wx hAx (by decide) o_X rfl q_w_X4 tyX4_ok nmX4 3 (by decide) hw rfl (by decide +kernel) rfl rfl (by show 3 < 5; decide) hset (fun j hj => up2_ne hj) hd (h _ (Rg_up hσ hq))
  · exact s_putV (J := fun σ => V σ B nb) (ty := .object "OverflowRows$Book") C hK hV.wx hAx (by decide) o_X rfl q_w_X4 tyX4_ok nmX4 4 (by decide) hw rfl (by decide +kernel) rfl rfl (by show 4 < 5; decide) hset (fun j hj => up2_ne hj) hd (h _ (Rg_up hσ hq))
theorem u_aaldQ (C : Cx p s m args meth c cc nL own) (hK : KK G s) {i nA : Nat} {j : Int} {K : Int → Option α} (hI : ∀ H, I H → WX G x y0 σ B nb H) (hσ : Rg σ) (hi : (i = 7 ∧ nA = 6) ∨ (i = 8 ∧ nA = 2)) (hd : decode cc pc = .ok (.aaload, 1)) (h : ∀ v, inR v → Sim p l e R s m args below meth c nL A Q k n I (pc + 1) L (rv x y0 v :: st) (K v)) : Sim p l e R s m args below meth c nL A Q k n I pc L (vI j :: .ref (x + i) :: st) ((ld σ i nA j).bind K) := s_bind fun y hy z hz H locs ls hH hS hL => by
  unfold ld at hy
  split at hy
  · rename_i hj
    cases hy
    have h0 : va_at G.1 vwCl (x + i, ib G x y0 nA (σ i)) H := by
      rcases hi with ⟨rfl, rfl⟩ | ⟨rfl, rfl⟩
      · exact (hI H hH).1 7 (by decide)
      · exact (hI H hH).1 8 (by decide)
    have hn1 : nA ≤ 6 := by omega
    have hjr : inR j := ⟨by omega, by omega⟩
    refine W.aald (v := rv x y0 (σ i j.toNat)) (ty := .object RX0) C.1 C.2.1 h0 ((hK.2 2 _ rfl).1 nA (fun q => va_rf (bo x y0 (σ i q)))) rfl (fun q => by cases q) (by show ¬ (_ < 0 ∨ (arrV _ _ _).slots.size ≤ _); rw [arrV_size]; exact i32_vin (n := nA) hj.1 hj.2 (by omega)) ?_ rfl rfl hd (h _ (hσ _ _) z hz H locs ls hH hS hL)
    show (arrV _ _ _).slots[_]? = _
    rw [i32_nat hjr, arrV_read _ _ (by omega : j.toNat < nA)]
    rfl
  · cases hy
theorem u_ifnonnull (C : Cx p s m args meth c cc nL own) {v : Int} {off : Int} {tgt : Nat} {K1 K2 : Option α} (hd : decode cc pc = .ok (.ifnonnull off, 3)) (ht : (pc : Int) + off = (tgt : Int)) (h1 : Sim p l e R s m args below meth c nL A Q k n I (pc + 3) L st K1) (h2 : Sim p l e R s m args below meth c nL A Q k n I tgt L st K2) : Sim p l e R s m args below meth c nL A Q k n I pc L (rv x y0 v :: st) (if v < 0 then K1 else K2) := fun z hz H locs ls hI hS hL => by
  unfold rv bo
  by_cases hv : v < 0
  · rw [if_pos hv] at hz ⊢
    exact lv_ifnonnullN C.1 C.2.1 hd (h1 z hz H locs ls hI hS hL)
  · rw [if_neg hv] at hz ⊢
    exact lv_ifnonnull C.1 C.2.1 hd ht (h2 z hz H locs ls hI hS hL)
theorem u_ifnull (C : Cx p s m args meth c cc nL own) {v : Int} {off : Int} {tgt : Nat} {K1 K2 : Option α} (hd : decode cc pc = .ok (.ifnull off, 3)) (ht : (pc : Int) + off = (tgt : Int)) (h1 : Sim p l e R s m args below meth c nL A Q k n I tgt L st K1) (h2 : Sim p l e R s m args below meth c nL A Q k n I (pc + 3) L st K2) : Sim p l e R s m args below meth c nL A Q k n I pc L (rv x y0 v :: st) (if v < 0 then K1 else K2) := fun z hz H locs ls hI hS hL => by
  unfold rv bo
  by_cases hv : v < 0
  · rw [if_pos hv] at hz ⊢
    exact lv_ifnullN C.1 C.2.1 hd ht (h1 z hz H locs ls hI hS hL)
  · rw [if_neg hv] at hz ⊢
    exact lv_ifnull C.1 C.2.1 hd (h2 z hz H locs ls hI hS hL)
theorem u_aastQ (C : Cx p s m args meth c cc nL own) (hK : KK G s) (hV : WV G x y0 V) (hA : ∀ q, Rx x y0 q → A q) {i nA q : Nat} {j : Int} {K : Blk → Option α} (hσ : Rg σ) (hqn : q < nb) (hi : (i = 7 ∧ nA = 6) ∨ (i = 8 ∧ nA = 2)) (hd : decode cc pc = .ok (.aastore, 1)) (h : ∀ σ', Rg σ' → Sim p l e R s m args below meth c nL A Q k n (V σ' B nb) (pc + 1) L st (K σ')) : Sim p l e R s m args below meth c nL A Q k n (V σ B nb) pc L (.ref (ad x y0 q + 0) :: vI j :: .ref (x + i) :: st) ((ck (q : Int)).bind fun w => (sw σ i nA j w).bind K) := s_ck fun hqr => s_bind fun y hy z hz H locs ls hH hS hL => by
  unfold sw at hy
  split at hy
  · rename_i hj
    cases hy
    have hW := hV.1 _ _ _ _ hH
    have h0 : va_at G.1 vwCl (x + i, ib G x y0 nA (σ i)) H := by
      rcases hi with ⟨rfl, rfl⟩ | ⟨rfl, rfl⟩
      · exact hW.1 7 (by decide)
      · exact hW.1 8 (by decide)
    have hlay : ∀ d, layX G x y0 i d = ib G x y0 nA d := by
      rcases hi with ⟨rfl, rfl⟩ | ⟨rfl, rfl⟩ <;> exact fun _ => rfl
    have hi9 : i < 9 := by omega
    have hn1 : nA ≤ 6 := by omega
    have hjr : inR j := ⟨by omega, by omega⟩
    have hv := hW.book hqn 0 (by decide)
    obtain ⟨r', hr', cellV, g1, g2, g3, -⟩ := hv
    have hr2 : r' = (RX0, TX0, 6) := Option.some.inj (hr'.symm.trans (show vwCl[0]? = some (RX0, TX0, 6) from rfl))
    subst hr2
    have hcls := (hK.1 0 (RX0, TX0, 6) rfl).2
    obtain ⟨kA, comp, k1, k2, k3, -⟩ := (hK.2 2 _ rfl).2
    have hcomp : comp = G.1.1 0 := Option.some.inj (k3.symm.trans hcls.1)
    subst hcomp
    obtain ⟨kC, hkC, -⟩ := hcls.2
    refine W.aast C.1 C.2.1 h0 (fun q h => by cases h) (fun h => by cases h) k1 k2 rfl hkC ⟨fun w => ?_, by show _ < (arrV _ _ _).slots.size; rw [arrV_size, i32_nat hjr]; show j.toNat < nA; omega⟩ g1 (fun q h => by rw [g3] at h; cases h) (by rw [g2]; exact hkC) (by rw [g2]; exact va_assign hcls) rfl rfl hd fun H1 e1 z1 oq => ?_
    · have := (i32_lt hjr (inR_c 0 rfl)).mp w
      omega
    · have hcell : va_at G.1 vwCl (x + i, layX G x y0 i (up2 σ i j.toNat (q : Int) i)) H1 := by
        rw [hlay]
        show H1[x + i]? = some (vp_cell _ _)
        rw [e1, i32_nat hjr]
        show some (Cell.setSlot (vp_cell G.2.2.2 (nA, .inr (.inr (.inr (.inr _))))) _ _) = _
        rw [vp_cell_q, vp_cell_q, arrV_store]
        congr 2
        funext r
        by_cases hr : r = j.toNat
        · subst hr
          simp [updV, up2, va_rf, bo, show ¬ ((q : Int) < 0) by omega]
        · simp [updV, up2, hr]
      refine h _ (Rg_up hσ hqr) z hz H1 _ ls ?_ (hS.put z1 oq (hA _ (Or.inl ⟨by omega, by omega⟩))) hL
      exact hV.wx.set (I := fun σ => V σ B nb) hH hi9 z1 oq hcell
  · cases hy
theorem u_iastore (C : Cx p s m args meth c cc nL own) (hK : KK G s) (hV : WV G x y0 V) (hA : ∀ q, Rx x y0 q → A q) (h5 : x + 205 ≤ y0) (hB : RgB B) {q i nA : Nat} {j a : Int} {K : (Nat → Blk) → Option α} (hq : q < nb) (hva : inR a) (hi : i < 98) (ha : isA G (layBook G (ad x y0 q)) i nA) (hd : decode cc pc = .ok (.iastore, 1)) (h : ∀ B', RgB B' → Sim p l e R s m args below meth c nL A Q k n (V σ B' nb) (pc + 1) L st (K B')) : Sim p l e R s m args below meth c nL A Q k n (V σ B nb) pc L (vI a :: vI j :: .ref (ad x y0 q + i) :: st) (bw B q i nA j a K) := by
  refine s_I (I' := (fun β => V σ (ub B q β) nb) (B q)) (fun H hH => by rw [← ub_self B q] at hH; exact hH) ?_
  exact s_iastore (J := fun β => V σ (ub B q β) nb) (K := fun β => K (ub B q β)) C hK (hV.wb hq) (fun z hz => hA z (ad_Rx h5 hz.1 hz.2)) (hB q) hva hi ha hd (fun β hβ => h _ (RgB_ub hB hβ))
theorem u_putB (C : Cx p s m args meth c cc nL own) (hK : KK G s) (hV : WV G x y0 V) (hA : ∀ q, Rx x y0 q → A q) (h5 : x + 205 ≤ y0) (hB : RgB B) {q f ix : Nat} {a : Int} {K : (Nat → Blk) → Option α} (hq : q < nb) (hva : inR a) (hf : f < 6) (hw : Cond.fieldLink own ix (TX0 f).1 (TX0 f).2.1 (TX0 f).2.2.1 ∈ lw_g) (hfin : (TX0 f).2.2.2 = false) (hd0 : parseFieldDescriptor (TX0 f).2.2.1 = some .int) (hl : ∀ d, f < (fsBook (ad x y0 q) d).length) (hset : ∀ (σ : Blk) (a : Int), fsBook (ad x y0 q) (up2 σ 0 f a 0) = (fsBook (ad x y0 q) (σ 0)).set f (vI a)) (hd : decode cc pc = .ok (.putfield ix, 3)) (h : ∀ B', RgB B' → Sim p l e R s m args below meth c nL A Q k n (V σ B' nb) (pc + 3) L st (K B')) : Sim p l e R s m args below meth c nL A Q k n (V σ B nb) pc L (vI a :: .ref (ad x y0 q + 0) :: st) (bp B q 0 f a K) := by
  refine s_I (I' := (fun β => V σ (ub B q β) nb) (B q)) (fun H hH => by rw [← ub_self B q] at hH; exact hH) ?_
  exact s_putP (J := fun β => V σ (ub B q β) nb) (K := fun β => K (ub B q β)) (ty := .int) C hK (hV.wb hq) (fun z hz => hA z (ad_Rx h5 hz.1 hz.2)) (hB q) hva (by decide) o_Book rfl q_w_X0 tyX0_ok nmX0 f hf hw hfin hd0 rfl rfl hl hset hd (fun β hβ => h _ (RgB_ub hB hβ))
theorem u_callW (C : Cx p s m args meth c cc nL own) (hK : KA G s) (hA : ∀ q, Rx x y0 q → A q) (h5 : x + 205 ≤ y0) (hB : RgB B) {y : MethodName} {bytes : ByteArray} {maxL ix q off : Nat} {ret : Option FieldType} {rm : Room} {As rest st0 : List Value} {kc : Option (Int × Blk)} {K : Int → (Nat → Blk) → Option α} (np : Nat)
    (hM : MetS l y bytes maxL ret rm G (.ref (ad x y0 q + off) :: As) ((fun β => V σ (ub B q β) nb) (B q)) (poW (fun β => V σ (ub B q β) nb)) (Ab (ad x y0 q) 98) 0 0 kc) (hst0 : As.reverse ++ .ref (ad x y0 q + off) :: rest = st0) (hq : CallB R s args own ix y bytes maxL ret (.code y bytes maxL ret :: lw_g) rm 0 0 np) (hin : Cond.instanceMethod y ∈ lw_g) (hse : Cond.selects y.cls y y ∈ lw_g) (hrv : ∀ H, V σ B nb H → ∃ cell : Cell, H[ad x y0 q + off]? = some cell ∧ cell.vm.isStatics = false ∧ s.vm.findClass y.cls = some cell.cls)
    (hnp : As.length = np) (hcat : (rest.map fun v => v.category).sum ≤ 8) (hd : decode cc pc = .ok (.invokevirtual ix, 3)) (hf : k ≤ R.cells ∧ n ≤ R.slots)
    (h : ∀ r B', inR r → RgB B' → Sim p l e R s m args below meth c nL A Q k n (V σ B' nb) (pc + 3) L (vI r :: rest) (K r B')) : Sim p l e R s m args below meth c nL A Q k n (V σ B nb) pc L st0 (cbW kc B q K) := by
  refine s_I (I' := (fun β => V σ (ub B q β) nb) (B q)) (fun H hH => by rw [← ub_self B q] at hH; exact hH) ?_
  exact s_callV_W (J := fun β => V σ (ub B q β) nb) (K := fun r β => K r (ub B q β)) C hK np hM (fun z hz => hA z (ad_Rx h5 hz.1 hz.2)) hst0 hq hin hse (fun H hH => hrv H (by rw [← ub_self B q]; exact hH)) hnp hcat hd hf (fun r β hr hβ => h r _ hr (RgB_ub hB hβ))
theorem u_callU (C : Cx p s m args meth c cc nL own) (hK : KA G s) (hA : ∀ q, Rx x y0 q → A q) (h5 : x + 205 ≤ y0) (hB : RgB B) {y : MethodName} {bytes : ByteArray} {maxL ix q off : Nat} {ret : Option FieldType} {rm : Room} {As rest st0 : List Value} {kc : Option Blk} {K : (Nat → Blk) → Option α} (np : Nat)
    (hM : MetS l y bytes maxL ret rm G (.ref (ad x y0 q + off) :: As) ((fun β => V σ (ub B q β) nb) (B q)) (poU (fun β => V σ (ub B q β) nb)) (Ab (ad x y0 q) 98) 0 0 kc) (hst0 : As.reverse ++ .ref (ad x y0 q + off) :: rest = st0) (hq : CallB R s args own ix y bytes maxL ret (.code y bytes maxL ret :: lw_g) rm 0 0 np) (hin : Cond.instanceMethod y ∈ lw_g) (hse : Cond.selects y.cls y y ∈ lw_g) (hrv : ∀ H, V σ B nb H → ∃ cell : Cell, H[ad x y0 q + off]? = some cell ∧ cell.vm.isStatics = false ∧ s.vm.findClass y.cls = some cell.cls)
    (hnp : As.length = np) (hcat : (rest.map fun v => v.category).sum ≤ 8) (hd : decode cc pc = .ok (.invokevirtual ix, 3)) (hf : k ≤ R.cells ∧ n ≤ R.slots)
    (h : ∀ B', RgB B' → Sim p l e R s m args below meth c nL A Q k n (V σ B' nb) (pc + 3) L rest (K B')) : Sim p l e R s m args below meth c nL A Q k n (V σ B nb) pc L st0 (cbU kc B q K) := by
  refine s_I (I' := (fun β => V σ (ub B q β) nb) (B q)) (fun H hH => by rw [← ub_self B q] at hH; exact hH) ?_
  exact s_callV_U (J := fun β => V σ (ub B q β) nb) (K := fun β => K (ub B q β)) C hK np hM (fun z hz => hA z (ad_Rx h5 hz.1 hz.2)) hst0 hq hin hse (fun H hH => hrv H (by rw [← ub_self B q]; exact hH)) hnp hcat hd hf (fun β hβ => h _ (RgB_ub hB hβ))
theorem u_callSU (C : Cx p s m args meth c cc nL own) (hK : KA G s) (hA : ∀ q, Rx x y0 q → A q) (h5 : x + 205 ≤ y0) (hB : RgB B) {y : MethodName} {bytes : ByteArray} {maxL ix q : Nat} {ret : Option FieldType} {rm : Room} {As rest st0 : List Value} {kc : Option Blk} {K : (Nat → Blk) → Option α} (np : Nat)
    (hM : MetS l y bytes maxL ret rm G As ((fun β => V σ (ub B q β) nb) (B q)) (poU (fun β => V σ (ub B q β) nb)) (Ab (ad x y0 q) 98) 0 0 kc) (hst0 : As.reverse ++ rest = st0) (hq : CallB R s args own ix y bytes maxL ret (.code y bytes maxL ret :: lw_g) rm 0 0 np) (hsm : Cond.static y ∈ lw_g)
    (hnp : As.length = np) (hcat : (rest.map fun v => v.category).sum ≤ 8) (hd : decode cc pc = .ok (.invokestatic ix, 3)) (hf : k ≤ R.cells ∧ n ≤ R.slots)
    (h : ∀ B', RgB B' → Sim p l e R s m args below meth c nL A Q k n (V σ B' nb) (pc + 3) L rest (K B')) : Sim p l e R s m args below meth c nL A Q k n (V σ B nb) pc L st0 (cbU kc B q K) := by
  refine s_I (I' := (fun β => V σ (ub B q β) nb) (B q)) (fun H hH => by rw [← ub_self B q] at hH; exact hH) ?_
  exact s_callS_U (J := fun β => V σ (ub B q β) nb) (K := fun β => K (ub B q β)) C hK np hM (fun z hz => hA z (ad_Rx h5 hz.1 hz.2)) hst0 hq hsm hnp hcat hd hf (fun β hβ => h _ (RgB_ub hB hβ))
/-- a call of a Book's method that answers a reference to a row, and writes -/
theorem u_callV (C : Cx p s m args meth c cc nL own) (hK : KA G s) (hA : ∀ q, Rx x y0 q → A q) (h5 : x + 205 ≤ y0) (hB : RgB B) {y : MethodName} {bytes : ByteArray} {maxL ix q off : Nat} {ret : Option FieldType} {rm : Room} {As rest st0 : List Value} {kc : Option (Int × Blk)} {K : Int → (Nat → Blk) → Option α} (np : Nat)
    (hM : MetS l y bytes maxL ret rm G (.ref (ad x y0 q + off) :: As) ((fun β => V σ (ub B q β) nb) (B q)) (poV (fun β => V σ (ub B q β) nb) (ad x y0 q)) (Ab (ad x y0 q) 98) 0 0 kc) (hst0 : As.reverse ++ .ref (ad x y0 q + off) :: rest = st0) (hq : CallB R s args own ix y bytes maxL ret (.code y bytes maxL ret :: lw_g) rm 0 0 np) (hin : Cond.instanceMethod y ∈ lw_g) (hse : Cond.selects y.cls y y ∈ lw_g) (hrv : ∀ H, V σ B nb H → ∃ cell : Cell, H[ad x y0 q + off]? = some cell ∧ cell.vm.isStatics = false ∧ s.vm.findClass y.cls = some cell.cls)
    (hnp : As.length = np) (hcat : (rest.map fun v => v.category).sum ≤ 8) (hd : decode cc pc = .ok (.invokevirtual ix, 3)) (hf : k ≤ R.cells ∧ n ≤ R.slots)
    (h : ∀ r B', RgB B' → Sim p l e R s m args below meth c nL A Q k n (V σ B' nb) (pc + 3) L (rn (ad x y0 q) r :: rest) (K r B')) : Sim p l e R s m args below meth c nL A Q k n (V σ B nb) pc L st0 (cbW kc B q K) := by
  refine s_I (I' := (fun β => V σ (ub B q β) nb) (B q)) (fun H hH => by rw [← ub_self B q] at hH; exact hH) ?_
  exact s_callV_V (J := fun β => V σ (ub B q β) nb) (K := fun r β => K r (ub B q β)) C hK np hM (fun z hz => hA z (ad_Rx h5 hz.1 hz.2)) hst0 hq hin hse (fun H hH => hrv H (by rw [← ub_self B q]; exact hH)) hnp hcat hd hf (fun r β hβ => h r _ (RgB_ub hB hβ))
theorem u_padW (C : Cx p s m args meth c cc nL own) (hK : KA G s) (hA : ∀ q, Rx x y0 q → A q) (hσ : Rg σ) {y : MethodName} {bytes : ByteArray} {maxL ix : Nat} {ret : Option FieldType} {rm : Room} {As rest st0 : List Value} {kc : Option (Int × Blk)} {K : Int → Blk → Option α} (np : Nat)
    (hM : MetS l y bytes maxL ret rm G (.ref (x + 1) :: As) ((fun π => V (ipad σ π) B nb) (opad σ)) (poW (fun π => V (ipad σ π) B nb)) (Ab (x + 1) 5) 0 0 kc) (hst0 : As.reverse ++ .ref (x + 1) :: rest = st0) (hq : CallB R s args own ix y bytes maxL ret (.code y bytes maxL ret :: lw_g) rm 0 0 np) (hin : Cond.instanceMethod y ∈ lw_g) (hse : Cond.selects y.cls y y ∈ lw_g) (hrv : ∀ H, V σ B nb H → ∃ cell : Cell, H[x + 1]? = some cell ∧ cell.vm.isStatics = false ∧ s.vm.findClass y.cls = some cell.cls)
    (hnp : As.length = np) (hcat : (rest.map fun v => v.category).sum ≤ 8) (hd : decode cc pc = .ok (.invokevirtual ix, 3)) (hf : k ≤ R.cells ∧ n ≤ R.slots)
    (h : ∀ r σ', inR r → Rg σ' → Sim p l e R s m args below meth c nL A Q k n (V σ' B nb) (pc + 3) L (vI r :: rest) (K r σ')) : Sim p l e R s m args below meth c nL A Q k n (V σ B nb) pc L st0 (cpW kc σ K) := by
  refine s_I (I' := (fun π => V (ipad σ π) B nb) (opad σ)) (fun H hH => by show V (ipad σ (opad σ)) B nb H; rw [ipad_self]; exact hH) ?_
  exact s_callV_W (J := fun π => V (ipad σ π) B nb) (K := fun r π => K r (ipad σ π)) C hK np hM (fun z hz => hA z (Or.inl ⟨by have := hz.1; omega, by have := hz.2; omega⟩)) hst0 hq hin hse (fun H hH => hrv H (by have h9 : V (ipad σ (opad σ)) B nb H := hH; rw [ipad_self] at h9; exact h9)) hnp hcat hd hf (fun r π hr hπ => h r _ hr (Rg_ipad hσ hπ))
/-- calls of the whole object's own methods, of its History's -/
theorem u_up4 (C : Cx p s m args meth c cc nL own) (hK : KA G s) {y : MethodName} {bytes : ByteArray} {maxL ix a mc ms : Nat} {ret : Option FieldType} {rm : Room} {As rest st0 : List Value} {A1 : Nat → Prop} {kc : Option (Int × Up)} {K : Int → Blk → (Nat → Blk) → Nat → Option α} (np : Nat)
    (hM : MetS l y bytes maxL ret rm G (.ref a :: As) (V σ B nb) (poT V) A1 mc ms kc) (hA : ∀ q, A1 q → A q) (hst0 : As.reverse ++ .ref a :: rest = st0) (hq : CallB R s args own ix y bytes maxL ret (.code y bytes maxL ret :: lw_g) rm mc ms np) (hin : Cond.instanceMethod y ∈ lw_g) (hse : Cond.selects y.cls y y ∈ lw_g) (hrv : ∀ H, V σ B nb H → ∃ cell : Cell, H[a]? = some cell ∧ cell.vm.isStatics = false ∧ s.vm.findClass y.cls = some cell.cls)
    (hnp : As.length = np) (hcat : (rest.map fun v => v.category).sum ≤ 8) (hd : decode cc pc = .ok (.invokevirtual ix, 3)) (hf : k + mc ≤ R.cells ∧ n + ms ≤ R.slots)
    (h : ∀ r σ' B' nb', inR r → Rg σ' → RgB B' → 2 ≤ nb' → Sim p l e R s m args below meth c nL A Q (k + mc) (n + ms) (V σ' B' nb') (pc + 3) L (vI r :: rest) (K r σ' B' nb')) : Sim p l e R s m args below meth c nL A Q k n (V σ B nb) pc L st0 (bd4 kc K) := by
  subst hst0
  refine s_callV (K := fun z => K z.1 z.2.1 z.2.2.1 z.2.2.2) C hK np hM hA hq hin hse hrv hnp hcat hd hf (fun z v _ => fun x hx H locs ls hI hS hL => ?_)
  obtain ⟨rfl, h1, h2, h3, h3n, h4⟩ := hI
  exact h _ _ _ _ h1 h2 h3 h3n x hx H locs ls h4 hS hL
theorem u_up3 (C : Cx p s m args meth c cc nL own) (hK : KA G s) {y : MethodName} {bytes : ByteArray} {maxL ix a mc ms : Nat} {ret : Option FieldType} {rm : Room} {As rest st0 : List Value} {A1 : Nat → Prop} {kc : Option Up} {K : Blk → (Nat → Blk) → Nat → Option α} (np : Nat)
    (hM : MetS l y bytes maxL ret rm G (.ref a :: As) (V σ B nb) (poY V) A1 mc ms kc) (hA : ∀ q, A1 q → A q) (hst0 : As.reverse ++ .ref a :: rest = st0) (hq : CallB R s args own ix y bytes maxL ret (.code y bytes maxL ret :: lw_g) rm mc ms np) (hin : Cond.instanceMethod y ∈ lw_g) (hse : Cond.selects y.cls y y ∈ lw_g) (hrv : ∀ H, V σ B nb H → ∃ cell : Cell, H[a]? = some cell ∧ cell.vm.isStatics = false ∧ s.vm.findClass y.cls = some cell.cls)
    (hnp : As.length = np) (hcat : (rest.map fun v => v.category).sum ≤ 8) (hd : decode cc pc = .ok (.invokevirtual ix, 3)) (hf : k + mc ≤ R.cells ∧ n + ms ≤ R.slots)
    (h : ∀ σ' B' nb', Rg σ' → RgB B' → 2 ≤ nb' → Sim p l e R s m args below meth c nL A Q (k + mc) (n + ms) (V σ' B' nb') (pc + 3) L rest (K σ' B' nb')) : Sim p l e R s m args below meth c nL A Q k n (V σ B nb) pc L st0 (bd3 kc K) := by
  subst hst0
  refine s_callV (K := fun z => K z.1 z.2.1 z.2.2) C hK np hM hA hq hin hse hrv hnp hcat hd hf (fun z v _ => fun x hx H locs ls hI hS hL => ?_)
  obtain ⟨rfl, h1, h2, h2n, h3⟩ := hI
  exact h _ _ _ h1 h2 h2n x hx H locs ls h3 hS hL
theorem Rx_x {q : Nat} (h : Ab x 9 q) : Rx x y0 q := Or.inl ⟨h.1, by have := h.2; omega⟩
theorem Rx_b {q j : Nat} (h5 : x + 205 ≤ y0) (h : Ab (ad x y0 j) 98 q) : Rx x y0 q := ad_Rx h5 h.1 h.2
end UROWS
/-- two different Books -/
def ne {α : Type} (a b : Nat) (K : Option α) : Option α := if a = b then none else K
