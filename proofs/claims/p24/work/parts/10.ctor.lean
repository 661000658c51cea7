/-! CONSTRUCTORS: cells that come one behind another from an address on; F is what else holds of the heap below it -/
def FrS (b : Nat) (F : Heap → Prop) : Prop := ∀ H H1 : Heap, F H → H.size ≤ H1.size → (∀ q : Nat, q < b → H1[q]? = H[q]?) → F H1
def Cl (G : Gt) (b : Nat) (es : List va_E) (F : Heap → Prop) (H : Heap) : Prop := H.size = b + es.length ∧ (∀ (i : Nat) (e : va_E), es[i]? = some e → va_at G.1 vwCl (b + i, e) H) ∧ F H
theorem Cl.push {G : Gt} {b : Nat} {es : List va_E} {F : Heap → Prop} {H H1 : Heap} {e : va_E} (hF : FrS b F) (h : Cl G b es F H) (hz : H1.size = H.size + 1) (ho : ∀ q : Nat, q < H.size → H1[q]? = H[q]?) (he : va_at G.1 vwCl (b + es.length, e) H1) : Cl G b (es ++ [e]) F H1 := by
  refine ⟨by rw [hz, h.1, List.length_append]; rfl, fun i e' hi => ?_, hF H H1 h.2.2 (by omega) (fun q hq => ho q (by have := h.1; omega))⟩
  by_cases hl : i < es.length
  · rw [List.getElem?_append_left hl] at hi
    exact (h.2.1 i e' hi).kept (ho _ (by have := h.1; show b + i < _; omega))
  · rw [List.getElem?_append_right (by omega)] at hi
    have hz : i - es.length < 1 := (List.getElem?_eq_some_iff.mp hi).1
    have e1 : i = es.length := by omega
    subst e1
    rw [Nat.sub_self] at hi
    cases hi
    exact he
theorem Cl.set {G : Gt} {b : Nat} {es : List va_E} {F : Heap → Prop} {H H1 : Heap} {e : va_E} {i : Nat} (hF : FrS b F) (h : Cl G b es F H) (hz : H1.size = H.size) (ho : ∀ q : Nat, q ≠ b + i → H1[q]? = H[q]?) (he : va_at G.1 vwCl (b + i, e) H1) : Cl G b (es.set i e) F H1 := by
  refine ⟨by rw [hz, h.1, List.length_set], fun j e' hj => ?_, hF H H1 h.2.2 (by omega) (fun q hq => ho q (by omega))⟩
  by_cases hji : j = i
  · subst hji
    have hl : j < es.length := by
      have := (List.getElem?_eq_some_iff.mp hj).1
      rw [List.length_set] at this
      exact this
    rw [List.getElem?_set_self hl] at hj
    cases hj
    exact he
  · rw [List.getElem?_set_ne (Ne.symm hji)] at hj
    exact (h.2.1 j e' hj).kept (ho _ (by show b + j ≠ b + i; omega))
section CTOR
variable {p : Program} {l : Launch} {e : Env} {R : Room} {s : State} {m : MethodId} {args : Array Value} {below : List Frame} {meth : Method} {c : Code}
variable {cc : ByteArray} {nL : Nat} {own : String}
variable {α β : Type} {A : Nat → Prop} {Q : α → State → Prop} {k n : Nat} {I : Heap → Prop} {pc : Nat} {L L' : List (Nat × Value)} {st : List Value} {kk : Option α}
theorem n_obj (C : Cx p s m args meth c cc nL own) {ix a : Nat} (hw : Cond.methodLink own ix objectInit ∈ lw_g) (hd : decode cc pc = .ok (.invokespecial ix, 3)) (hfr : 1 ≤ R.frames) (hlo : (st.map fun v => v.category).sum + 12 ≤ R.locals) (h : Sim p l e R s m args below meth c nL A Q k n I (pc + 3) L st kk) : Sim p l e R s m args below meth c nL A Q k n I pc L (.ref a :: st) kk := fun x hx H locs ls hI hS hL => by
  refine W.objInit C.1 C.2.1 C.2.2.2.1 (C.2.2.2.2.1 _ hw) (C.2.2.2.2.1 _ q_i_objectInit) (C.2.2.2.2.1 _ q_c_objectInit) rfl (by show ls.size = c.maxLocals; rw [C.2.2.1, hL.1]) rfl hd hfr (by show 2 * 0 + _ + 12 ≤ _; omega) ?_
  exact h x hx H locs ls hI hS hL
theorem n_new (C : Cx p s m args meth c cc nL own) {G : Gt} (hK : KK G s) {b i ci Nf ix : Nat} {es es' : List va_E} {F : Heap → Prop} {Cn : String} {T : u_T} {ty0 : Nat → FieldType} {fs : List Value} (hF : FrS b F) (hi : es.length = i) (hc : vwCl[ci]? = some (Cn, T, Nf)) (hin : ∀ w ∈ u_ws Cn T Nf, w ∈ lw_g) (hty : ∀ k, k < Nf → parseFieldDescriptor (T k).2.2.1 = some (ty0 k)) (hcl : Cond.classLink own ix Cn ∈ lw_g) (hins : Cond.instantiable Cn Nf ∈ lw_g) (hini : Cond.initialized Cn ∈ lw_g) (hfs : ∀ j, j < Nf → defaultValue (ty0 j) = vp_V fs j) (hes : es ++ [.inr (ci, fs)] = es') (hd : decode cc pc = .ok (.new ix, 3)) (hr : k + 1 ≤ R.cells ∧ n + Nf ≤ R.slots) (h : Sim p l e R s m args below meth c nL A Q (k + 1) (n + Nf) (Cl G b es' F) (pc + 3) L (.ref (b + i) :: st) kk) : Sim p l e R s m args below meth c nL A Q k n (Cl G b es F) pc L st kk := fun x hx H locs ls hI hS hL => by
  have hts := C.2.2.2.2.1
  have hKn := hK.1 ci _ hc
  refine W.newcK C.1 C.2.1 C.2.2.2.1 (hts _ hcl) (hts _ hins) (hts _ hini) rfl hd hr.1 hr.2 hKn.2.1 (h := b + i) (by rw [hI.1, hi]) fun H1 kC hkC e1 z1 o1 => ?_
  have hz0 : H.size = b + i := by rw [hI.1, hi]
  refine h x hx H1 locs ls ?_ ⟨Nat.le_trans hS.1 (by omega), fun x h1 h2 => (o1 x (by have := hS.1; omega)).trans (hS.2.1 x h1 h2), hS.2.2⟩ hL
  rw [← hes]
  refine hI.push hF (by omega) (fun q hq => o1 q (by omega)) ?_
  rw [hi]
  exact ⟨_, hc, (u_born ty0 hts hin hKn hkC e1 hty).to hfs⟩
theorem n_newa (C : Cx p s m args meth c cc nL own) {G : Gt} (hK : KK G s) {b i N' : Nat} {z : Int} {es es' : List va_E} {F : Heap → Prop} (hF : FrS b F) (hi : es.length = i) (hz : z = (N' : Int)) (hN : N' ≤ 5000) (hes : es ++ [ia G N' (fun _ => 0)] = es') (hd : decode cc pc = .ok (.newarray .int, 2)) (hr : k + 1 ≤ R.cells ∧ n + N' ≤ R.slots) (h : Sim p l e R s m args below meth c nL A Q (k + 1) (n + N') (Cl G b es' F) (pc + 2) L (.ref (b + i) :: st) kk) : Sim p l e R s m args below meth c nL A Q k n (Cl G b es F) pc L (vI z :: st) kk := fun x hx H locs ls hI hS hL => by
  subst hz
  have hir : inR (N' : Int) := ⟨by omega, by omega⟩
  have hz0 : H.size = b + i := by rw [hI.1, hi]
  refine va_newaK (atype := .int) C.1 C.2.1 (C.2.2.2.2.1 _ q_a_int) rfl hd (n := Int32.ofInt (N' : Int)) (N := N') rfl (fun q => ?_) (by rw [i32_nat hir]; simp) (by show N' * 4 ≤ _; omega) hr.1 hr.2 (h := b + i) hz0 fun H1 cA e1 z1 o1 hAr hNm => ?_
  · have := (i32_lt hir (inR_c 0 rfl)).mp q
    omega
  · have ec : cA = G.2.1 := Option.some.inj (hNm.symm.trans (hK.2 0 _ rfl).2)
    subst ec
    refine h x hx H1 locs ls ?_ ⟨Nat.le_trans hS.1 (by omega), fun x h1 h2 => (o1 x (by have := hS.1; omega)).trans (hS.2.1 x h1 h2), hS.2.2⟩ hL
    rw [← hes]
    refine hI.push hF (by omega) (fun q hq => o1 q (by omega)) ?_
    rw [hi]
    exact e1
theorem n_newq (C : Cx p s m args meth c cc nL own) {G : Gt} (hK : KA G s) {b i N' ix : Nat} {z : Int} {es es' : List va_E} {F : Heap → Prop} (hF : FrS b F) (hi : es.length = i) (hz : z = (N' : Int)) (hN : N' ≤ 5000) (hcl : Cond.classLink own ix RX0 ∈ lw_g) (hes : es ++ [.inl (G.2.2.2, (N', .inr (.inr (.inr (.inr (fun _ => none))))))] = es') (hd : decode cc pc = .ok (.anewarray ix, 3)) (hr : k + 1 ≤ R.cells ∧ n + N' ≤ R.slots) (h : Sim p l e R s m args below meth c nL A Q (k + 1) (n + N') (Cl G b es' F) (pc + 3) L (.ref (b + i) :: st) kk) : Sim p l e R s m args below meth c nL A Q k n (Cl G b es F) pc L (vI z :: st) kk := fun x hx H locs ls hI hS hL => by
  subst hz
  have hir : inR (N' : Int) := ⟨by omega, by omega⟩
  have hz0 : H.size = b + i := by rw [hI.1, hi]
  have en : (Int32.ofInt (N' : Int)).toNatClampNeg = N' := by rw [i32_nat hir]; simp
  refine W.anew C.1 C.2.1 C.2.2.2.1 (C.2.2.2.2.1 _ hcl) (va_AO.use hK.2.1.1) rfl hd rfl (n := Int32.ofInt (N' : Int)) (fun q => ?_) (by rw [en]; omega) hr.1 (by rw [en]; exact hr.2) fun cA kA comp f1 f2 f3 f4 => ?_
  · have := (i32_lt hir (inR_c 0 rfl)).mp q
    omega
  · obtain ⟨kA', comp', k1, k2, k3, k4⟩ := (hK.1.2 2 _ rfl).2
    have ec : cA = G.2.2.2 := Option.some.inj (f1.symm.trans k4)
    subst ec
    rw [en]
    generalize hH1 : H.push ({ cls := G.2.2.2, slots := Array.replicate N' .null, vm := .none } : Cell) = H1
    have z1 : H1.size = H.size + 1 := by rw [← hH1, Array.size_push]
    have e1 : H1[H.size]? = some (arrV G.2.2.2 N' (fun _ => .null)) := by rw [← hH1, Array.getElem?_push_size, ← arrV_new]
    have o1 : ∀ q : Nat, q < H.size → H1[q]? = H[q]? := fun q hq => by rw [← hH1, Array.getElem?_push, if_neg (Nat.ne_of_lt hq)]
    refine W.eq (g2 := F0 m (pc + 3) ls (.ref (b + i) :: st)) (by rw [hz0]) (h x hx H1 locs ls ?_ ⟨Nat.le_trans hS.1 (by omega), fun x h1 h2 => (o1 x (by have := hS.1; omega)).trans (hS.2.1 x h1 h2), hS.2.2⟩ hL)
    rw [← hes]
    refine hI.push hF (by omega) o1 ?_
    rw [hi]
    show H1[b + i]? = some (vp_cell _ _)
    rw [← hz0, e1]
    rfl
theorem n_newqR (C : Cx p s m args meth c cc nL own) {G : Gt} (hK : KA G s) {b i N' ix : Nat} {z : Int} {es es' : List va_E} {F : Heap → Prop} (hF : FrS b F) (hi : es.length = i) (hz : z = (N' : Int)) (hN : N' ≤ 5000) (hcl : Cond.classLink own ix RX7 ∈ lw_g) (hes : es ++ [.inl (G.2.2.1, (N', .inr (.inr (.inr (.inr (fun _ => none))))))] = es') (hd : decode cc pc = .ok (.anewarray ix, 3)) (hr : k + 1 ≤ R.cells ∧ n + N' ≤ R.slots) (h : Sim p l e R s m args below meth c nL A Q (k + 1) (n + N') (Cl G b es' F) (pc + 3) L (.ref (b + i) :: st) kk) : Sim p l e R s m args below meth c nL A Q k n (Cl G b es F) pc L (vI z :: st) kk := fun x hx H locs ls hI hS hL => by
  subst hz
  have hir : inR (N' : Int) := ⟨by omega, by omega⟩
  have hz0 : H.size = b + i := by rw [hI.1, hi]
  have en : (Int32.ofInt (N' : Int)).toNatClampNeg = N' := by rw [i32_nat hir]; simp
  refine W.anew C.1 C.2.1 C.2.2.2.1 (C.2.2.2.2.1 _ hcl) (va_AO.use hK.2.1.2) rfl hd rfl (n := Int32.ofInt (N' : Int)) (fun q => ?_) (by rw [en]; omega) hr.1 (by rw [en]; exact hr.2) fun cA kA comp f1 f2 f3 f4 => ?_
  · have := (i32_lt hir (inR_c 0 rfl)).mp q
    omega
  · obtain ⟨kA', comp', k1, k2, k3, k4⟩ := (hK.1.2 1 _ rfl).2
    have ec : cA = G.2.2.1 := Option.some.inj (f1.symm.trans k4)
    subst ec
    rw [en]
    generalize hH1 : H.push ({ cls := G.2.2.1, slots := Array.replicate N' .null, vm := .none } : Cell) = H1
    have z1 : H1.size = H.size + 1 := by rw [← hH1, Array.size_push]
    have e1 : H1[H.size]? = some (arrV G.2.2.1 N' (fun _ => .null)) := by rw [← hH1, Array.getElem?_push_size, ← arrV_new]
    have o1 : ∀ q : Nat, q < H.size → H1[q]? = H[q]? := fun q hq => by rw [← hH1, Array.getElem?_push, if_neg (Nat.ne_of_lt hq)]
    refine W.eq (g2 := F0 m (pc + 3) ls (.ref (b + i) :: st)) (by rw [hz0]) (h x hx H1 locs ls ?_ ⟨Nat.le_trans hS.1 (by omega), fun x h1 h2 => (o1 x (by have := hS.1; omega)).trans (hS.2.1 x h1 h2), hS.2.2⟩ hL)
    rw [← hes]
    refine hI.push hF (by omega) o1 ?_
    rw [hi]
    show H1[b + i]? = some (vp_cell _ _)
    rw [← hz0, e1]
    rfl
/-- a row of references takes a reference to a row -/
theorem n_aast (C : Cx p s m args meth c cc nL own) {G : Gt} (hK : KK G s) {b i r nA : Nat} {z : Int} (j : Nat) {es es' : List va_E} {F : Heap → Prop} {f : Nat → Option Nat} {fs : List Value} (hF : FrS b F) (hAb : ∀ q, b ≤ q → A q) (he : es[i]? = some (.inl (G.2.2.1, (nA, .inr (.inr (.inr (.inr f))))))) (her : es[r]? = some (.inr (4, fs))) (hz : z = (j : Int)) (hj : j < nA) (hn : nA ≤ 1000) (hes : es.set i (.inl (G.2.2.1, (nA, .inr (.inr (.inr (.inr (fun q => if q = j then some (b + r) else f q))))))) = es') (hd : decode cc pc = .ok (.aastore, 1)) (h : Sim p l e R s m args below meth c nL A Q k n (Cl G b es' F) (pc + 1) L st kk) : Sim p l e R s m args below meth c nL A Q k n (Cl G b es F) pc L (.ref (b + r) :: vI z :: .ref (b + i) :: st) kk := fun x hx H locs ls hH hS hL => by
  subst hz
  have hjr : inR (j : Int) := ⟨by omega, by omega⟩
  have h0 := hH.2.1 i _ he
  obtain ⟨r', hr', cellV, g1, g2, g3, -⟩ := hH.2.1 r _ her
  have hr2 : r' = (RX7, TX7, 7) := Option.some.inj (hr'.symm.trans (show vwCl[4]? = some (RX7, TX7, 7) from rfl))
  subst hr2
  have hcls := (hK.1 4 (RX7, TX7, 7) rfl).2
  obtain ⟨kA, comp, k1, k2, k3, -⟩ := (hK.2 1 _ rfl).2
  have hcomp : comp = G.1.1 4 := Option.some.inj (k3.symm.trans hcls.1)
  subst hcomp
  obtain ⟨kC, hkC, -⟩ := hcls.2
  refine W.aast C.1 C.2.1 h0 (fun q h => by cases h) (fun h => by cases h) k1 k2 rfl hkC ⟨fun w => ?_, by show _ < (arrV _ _ _).slots.size; rw [arrV_size, i32_nat hjr, Int.toNat_natCast]; exact hj⟩ g1 (fun q h => by rw [g3] at h; cases h) (by rw [g2]; exact hkC) (by rw [g2]; exact va_assign hcls) rfl rfl hd fun H1 e1 z1 oq => ?_
  · have := (i32_lt hjr (inR_c 0 rfl)).mp w
    omega
  · refine h x hx H1 _ ls ?_ (hS.put z1 oq (hAb _ (by omega))) hL
    rw [← hes]
    refine hH.set hF z1 oq ?_
    show H1[b + i]? = some (vp_cell _ _)
    rw [e1, i32_nat hjr, Int.toNat_natCast]
    show some (Cell.setSlot (vp_cell G.2.2.1 (nA, .inr (.inr (.inr (.inr _))))) _ _) = _
    rw [vp_cell_q, vp_cell_q, arrV_store]
    congr 2
    funext q
    by_cases hq : q = j
    · subst hq
      simp [updV, va_rf]
    · simp [updV, hq]
theorem n_put (C : Cx p s m args meth c cc nL own) {G : Gt} (hK : KK G s) {b i ci Nf ix : Nat} {es es' : List va_E} {F : Heap → Prop} {Cn : String} {T : u_T} {ty0 : Nat → FieldType} {fs : List Value} {v : Value} (hF : FrS b F) (hAb : ∀ q, b ≤ q → A q) (he : es[i]? = some (.inr (ci, fs))) (hc : vwCl[ci]? = some (Cn, T, Nf)) (hin : ∀ w ∈ u_ws Cn T Nf, w ∈ lw_g) (hty : ∀ k, k < Nf → parseFieldDescriptor (T k).2.2.1 = some (ty0 k)) (hnm : ∀ a, a < Nf → ∀ b, b < Nf → a ≠ b → (T a).2.1 ≠ (T b).2.1) (f : Nat) (hf : f < Nf) (hw : Cond.fieldLink own ix (T f).1 (T f).2.1 (T f).2.2.1 ∈ lw_g) (hfin : (T f).2.2.2 = false ∨ ((T f).2.2.2 = true ∧ meth.name = "<init>" ∧ (T f).1 = own)) {ty : FieldType} (hd0 : parseFieldDescriptor (T f).2.2.1 = some ty) (hn : narrow ty v = v) (hfit : fits ty v = true) (hl : f < fs.length) (hes : es.set i (.inr (ci, fs.set f v)) = es') (hd : decode cc pc = .ok (.putfield ix, 3)) (h : Sim p l e R s m args below meth c nL A Q k n (Cl G b es' F) (pc + 3) L st kk) : Sim p l e R s m args below meth c nL A Q k n (Cl G b es F) pc L (v :: .ref (b + i) :: st) kk := fun x hx H locs ls hH hS hL => by
  have hts := C.2.2.2.2.1
  have h0 := hH.2.1 i _ he
  have hP : va_P G.1 vwCl [(b + i, .inr (ci, fs))] H := fun q z hz => by
    match q, hz with
    | 0, hz => cases hz; exact h0
    | q + 1, hz => simp at hz
  have hap := va_apart (own := own) hts hin ty0 hty hnm hK hc
  obtain ⟨r, h1, cell, q1, q2, q3, q4⟩ := h0
  have hr : r = (Cn, T, Nf) := Option.some.inj (h1.symm.trans hc)
  subst hr
  obtain ⟨hS0, hfc, kC, hkC, hkind⟩ := hK.1 ci _ hc
  obtain ⟨cf, kf, fi, fd, hi2, hsl⟩ := hS0 f hf
  have hlay := hts _ (hin _ (u_in_lay hf))
  have hst := (u_facts hfc hkC (u_lays hts hin hf) hi2).1
  have key : ∀ H' : Heap, H'[b + i]? = some (cell.setSlot fd.slot v) → H'.size = H.size → (∀ q, q ≠ b + i → H'[q]? = H[q]?) → W p l e R s m args below meth c H' (locs ++ [⟨b + i, fd.slot⟩]) k n (Q x) (F0 m (pc + 3) ls st) := fun H' e1 e2 e3 => by
    rw [hsl] at e1 ⊢
    refine h x hx H' _ ls ?_ (hS.put e2 e3 (hAb _ (by omega))) hL
    rw [← hes]
    exact hH.set hF e2 e3 ⟨_, hc, t_OB.to (V := updV (vp_V fs) f v) ⟨_, e1, q2, q3, t_set q4 hap hf v⟩ (fun j _ => vp_updV_set hl v j)⟩
  unfold u_lay at hlay
  rcases hfin with hfin | ⟨hfin, hname, hdecl⟩
  · rw [if_neg (by rw [hfin]; decide)] at hlay
    have h6 := u_store hfc hkC hkind hlay hi2 hd0 hn hfit
    exact W.putK C.1 C.2.1 (f := fd) ⟨C.2.2.2.1, hts _ hw, ⟨_, _, _, hi2⟩, hst⟩ (by rw [q2]; exact h6) q1 q3 (by rw [hsl]; exact k2_hasslot (q4 f hf)) rfl rfl hd key
  · rw [if_pos hfin] at hlay
    have hcf : m.cls = cf := by
      obtain ⟨_, _, c', _, _, _, -, -, hf', -, -, -, hown2, -⟩ := Cond.laysFinal_spec hlay
      have e1 : c' = cf := by have := hi2.symm.trans hf'; simp at this; exact this.1.symm
      rw [hdecl] at hown2
      rw [← e1]; exact Option.some.inj (C.2.2.2.1.symm.trans hown2)
    have h6 := u_fits hfc hkC hkind (Or.inr hlay) hi2 hd0 hn hfit
    exact W.putFinK C.1 C.2.1 C.2.2.2.1 (hts _ hw) hi2 hst hcf hname (by rw [q2]; exact h6) q1 q3 (by rw [hsl]; exact k2_hasslot (q4 f hf)) rfl rfl hd key
theorem n_get (C : Cx p s m args meth c cc nL own) {G : Gt} (hK : KK G s) {b i ci Nf ix : Nat} {es : List va_E} {F : Heap → Prop} {Cn : String} {T : u_T} {fs : List Value} {v : Value} (he : es[i]? = some (.inr (ci, fs))) (hc : vwCl[ci]? = some (Cn, T, Nf)) (hin : ∀ w ∈ u_ws Cn T Nf, w ∈ lw_g) (f : Nat) (hf : f < Nf) (hw : Cond.fieldLink own ix (T f).1 (T f).2.1 (T f).2.2.1 ∈ lw_g) (hv : fs[f]? = some v) (hd : decode cc pc = .ok (.getfield ix, 3)) (h : Sim p l e R s m args below meth c nL A Q k n (Cl G b es F) (pc + 3) L (v :: st) kk) : Sim p l e R s m args below meth c nL A Q k n (Cl G b es F) pc L (.ref (b + i) :: st) kk := fun x hx H locs ls hH hS hL =>
  va_get (D := G.1) (cl := vwCl) (ws := [(b + i, .inr (ci, fs))]) (ref := (T f).1) C.1 C.2.1 C.2.2.2.2.1 hin C.2.2.2.1 hK (fun q z hz => by
    match q, hz with
    | 0, hz => cases hz; exact hH.2.1 i _ he
    | q + 1, hz => simp at hz) 0 rfl hc f hf (C.2.2.2.2.1 _ hw) (fun _ z => z) hv hd (h x hx H locs ls hH hS hL)
/-- a world of a block and what lies below it -/
def lsL (lay : Lay) (N : Nat) (σ : Blk) : List va_E := (List.range N).map (fun i => lay i (σ i))
def JC (G : Gt) (lay : Lay) (N a : Nat) (F : Heap → Prop) (σ : Blk) : Heap → Prop := Cl G a (lsL lay N σ) F
theorem JC.wd {G : Gt} {lay : Lay} {N a : Nat} {F : Heap → Prop} (hF : FrS a F) : Wd G lay N a (JC G lay N a F) := by
  refine ⟨fun σ H h i hi => h.2.1 i _ (by simp [lsL, hi]), fun σ σ' H H1 h hB hz ho => ⟨by rw [hz, h.1]; simp [lsL], fun i e hi => ?_, hF H H1 h.2.2 (by omega) (fun q hq => ho q (by omega))⟩⟩
  have hi' : i < N := by
    have := (List.getElem?_eq_some_iff.mp hi).1
    simpa [lsL] using this
  have e1 : e = lay i (σ' i) := by
    simp [lsL, hi'] at hi
    exact hi.symm
  rw [e1]
  exact hB i hi'
/-- the call of a constructor on the object that came last -/
theorem n_callC (C : Cx p s m args meth c cc nL own) {G : Gt} (hK : KA G s) {y : MethodName} {bytes : ByteArray} {maxL ix : Nat} {rm : Room} {rest : List Value} {b i : Nat} {lay : Lay} {N : Nat} {mc ms : Nat} {kc : Option Blk} {K : Blk → Option α} {es pre : List va_E} {e0 : va_E} {F : Heap → Prop} (hF : FrS b F) (hAb : ∀ q, b ≤ q → A q)
    (hM : ∀ F' : Heap → Prop, FrS (b + i) F' → MetS l y bytes maxL none rm G [.ref (b + i)] (Cl G (b + i) [e0] F') (poU (JC G lay N (b + i) F')) (fun q => b + i ≤ q) mc ms kc) (hes : es = pre ++ [e0]) (hi : pre.length = i)
    (hq : CallB R s args own ix y bytes maxL none (.code y bytes maxL none :: lw_g) rm mc ms 0) (hy1 : y.name = "<init>") (hin : Cond.instanceMethod y ∈ lw_g)
    (hcat : (rest.map fun v => v.category).sum ≤ 8) (hd : decode cc pc = .ok (.invokespecial ix, 3)) (hf : k + mc ≤ R.cells ∧ n + ms ≤ R.slots)
    (h : ∀ σ', Rg σ' → Sim p l e R s m args below meth c nL A Q (k + mc) (n + ms) (Cl G b (pre ++ lsL lay N σ') F) (pc + 3) L rest (K σ')) : Sim p l e R s m args below meth c nL A Q k n (Cl G b es F) pc L (.ref (b + i) :: rest) (kc.bind K) := s_bind fun z hz x hx H locs ls hI hS hL => by
  have hF' : FrS (b + i) (fun H => (∀ (j : Nat) (e : va_E), pre[j]? = some e → va_at G.1 vwCl (b + j, e) H) ∧ F H) := fun H H1 hh hs ho => ⟨fun j e hj => (hh.1 j e hj).kept (ho _ (by
    have := (List.getElem?_eq_some_iff.mp hj).1
    show b + j < b + i
    omega)), hF H H1 hh.2 hs (fun q hq => ho q (by omega))⟩
  have hpre : Cl G (b + i) [e0] (fun H => (∀ (j : Nat) (e : va_E), pre[j]? = some e → va_at G.1 vwCl (b + j, e) H) ∧ F H) H := by
    subst hes
    refine ⟨by rw [hI.1, List.length_append, hi]; simp; omega, fun j e hj => ?_, fun j e hj => hI.2.1 j e (by rw [List.getElem?_append_left (List.getElem?_eq_some_iff.mp hj).1]; exact hj), hI.2.2⟩
    match j, hj with
    | 0, hj =>
      cases hj
      exact hI.2.1 i _ (by rw [List.getElem?_append_right (by omega), hi, Nat.sub_self]; rfl)
    | j + 1, hj => simp at hj
  refine s_run (G := G) (y := y) (A1 := fun q => b + i ≤ q) (fun q hq => hAb q (by omega)) (va_runI (b := b + i) (As := []) (rest := rest) ⟨C.1, C.2.1, C.2.2.1, C.2.2.2.1, C.2.2.2.2.1⟩ (hM _ hF' z hz) ⟨hq, hy1, C.2.2.2.2.1 _ hin⟩ ⟨pc_blind, fun U hU hW => pc_in hK hpre U hU hW⟩ rfl rfl hL.1 rfl (lv_room hcat) hd hf) hS (fun v H1 locs1 hp _ _ hS1 => ?_)
  obtain ⟨rfl, h1, h2⟩ := hp
  refine h z h1 x hx H1 locs1 ls ⟨by rw [h2.1, List.length_append, hi]; omega, fun j e hj => ?_, h2.2.2.2⟩ hS1 hL
  by_cases hl : j < pre.length
  · rw [List.getElem?_append_left hl] at hj
    exact h2.2.2.1 j e hj
  · rw [List.getElem?_append_right (by omega)] at hj
    have h9 := h2.2.1 (j - pre.length) e hj
    rw [show b + i + (j - pre.length) = b + j by omega] at h9
    exact h9
/-- the same over a nest mate's private constructor; what it lays is known -/
theorem n_callZ (C : Cx p s m args meth c cc nL own) {G : Gt} (hK : KA G s) {y : MethodName} {bytes : ByteArray} {maxL ix : Nat} {rm : Room} {rest : List Value} {b i : Nat} {lay : Lay} {N : Nat} {mc ms : Nat} {kc : Option Blk} {z : Blk} {es pre : List va_E} {e0 : va_E} {F : Heap → Prop} (hF : FrS b F) (hAb : ∀ q, b ≤ q → A q)
    (hM : ∀ F' : Heap → Prop, FrS (b + i) F' → MetS l y bytes maxL none rm G [.ref (b + i)] (Cl G (b + i) [e0] F') (poU (JC G lay N (b + i) F')) (fun q => b + i ≤ q) mc ms kc) (hes : es = pre ++ [e0]) (hi : pre.length = i)
    {host : String} (hq : va_CN R s args own ix y host bytes maxL none (.code y bytes maxL none :: lw_g) rm mc ms 0) (hy1 : y.name = "<init>") (hin : Cond.instanceMethod y ∈ lw_g)
    (hcat : (rest.map fun v => v.category).sum ≤ 8) (hd : decode cc pc = .ok (.invokespecial ix, 3)) (hf : k + mc ≤ R.cells ∧ n + ms ≤ R.slots)
    (hz : kc = some z) (h : Rg z → Sim p l e R s m args below meth c nL A Q (k + mc) (n + ms) (Cl G b (pre ++ lsL lay N z) F) (pc + 3) L rest kk) : Sim p l e R s m args below meth c nL A Q k n (Cl G b es F) pc L (.ref (b + i) :: rest) kk := fun x hx H locs ls hI hS hL => by
  have hF' : FrS (b + i) (fun H => (∀ (j : Nat) (e : va_E), pre[j]? = some e → va_at G.1 vwCl (b + j, e) H) ∧ F H) := fun H H1 hh hs ho => ⟨fun j e hj => (hh.1 j e hj).kept (ho _ (by
    have := (List.getElem?_eq_some_iff.mp hj).1
    show b + j < b + i
    omega)), hF H H1 hh.2 hs (fun q hq => ho q (by omega))⟩
  have hpre : Cl G (b + i) [e0] (fun H => (∀ (j : Nat) (e : va_E), pre[j]? = some e → va_at G.1 vwCl (b + j, e) H) ∧ F H) H := by
    subst hes
    refine ⟨by rw [hI.1, List.length_append, hi]; simp; omega, fun j e hj => ?_, fun j e hj => hI.2.1 j e (by rw [List.getElem?_append_left (List.getElem?_eq_some_iff.mp hj).1]; exact hj), hI.2.2⟩
    match j, hj with
    | 0, hj =>
      cases hj
      exact hI.2.1 i _ (by rw [List.getElem?_append_right (by omega), hi, Nat.sub_self]; rfl)
    | j + 1, hj => simp at hj
  refine s_run (G := G) (y := y) (A1 := fun q => b + i ≤ q) (fun q hq => hAb q (by omega)) (va_runIN (b := b + i) (As := []) (rest := rest) ⟨C.1, C.2.1, C.2.2.1, C.2.2.2.1, C.2.2.2.2.1⟩ (hM _ hF' z hz) ⟨hq, hy1, C.2.2.2.2.1 _ hin⟩ ⟨pc_blind, fun U hU hW => pc_in hK hpre U hU hW⟩ rfl rfl hL.1 rfl (lv_room hcat) hd hf) hS (fun v H1 locs1 hp _ _ hS1 => ?_)
  obtain ⟨rfl, h1, h2⟩ := hp
  refine h h1 x hx H1 locs1 ls ⟨by rw [h2.1, List.length_append, hi]; omega, fun j e hj => ?_, h2.2.2.2⟩ hS1 hL
  by_cases hl : j < pre.length
  · rw [List.getElem?_append_left hl] at hj
    exact h2.2.2.1 j e hj
  · rw [List.getElem?_append_right (by omega)] at hj
    have h9 := h2.2.1 (j - pre.length) e hj
    rw [show b + i + (j - pre.length) = b + j by omega] at h9
    exact h9
theorem n_callN (C : Cx p s m args meth c cc nL own) {G : Gt} (hK : KA G s) {y : MethodName} {bytes : ByteArray} {maxL ix : Nat} {rm : Room} {rest : List Value} {b i : Nat} {lay : Lay} {N : Nat} {mc ms : Nat} {kc : Option Blk} {K : Blk → Option α} {es pre : List va_E} {e0 : va_E} {F : Heap → Prop} (hF : FrS b F) (hAb : ∀ q, b ≤ q → A q)
    (hM : ∀ F' : Heap → Prop, FrS (b + i) F' → MetS l y bytes maxL none rm G [.ref (b + i)] (Cl G (b + i) [e0] F') (poU (JC G lay N (b + i) F')) (fun q => b + i ≤ q) mc ms kc) (hes : es = pre ++ [e0]) (hi : pre.length = i)
    {host : String} (hq : va_CN R s args own ix y host bytes maxL none (.code y bytes maxL none :: lw_g) rm mc ms 0) (hy1 : y.name = "<init>") (hin : Cond.instanceMethod y ∈ lw_g)
    (hcat : (rest.map fun v => v.category).sum ≤ 8) (hd : decode cc pc = .ok (.invokespecial ix, 3)) (hf : k + mc ≤ R.cells ∧ n + ms ≤ R.slots)
    (h : ∀ σ', Rg σ' → Sim p l e R s m args below meth c nL A Q (k + mc) (n + ms) (Cl G b (pre ++ lsL lay N σ') F) (pc + 3) L rest (K σ')) : Sim p l e R s m args below meth c nL A Q k n (Cl G b es F) pc L (.ref (b + i) :: rest) (kc.bind K) := s_bind fun z hz => n_callZ C hK hF hAb hM hes hi hq hy1 hin hcat hd hf hz (h z)
end CTOR
