/-! THE LAW'S OWN ROWS: the object at x, the tables at x + 205, later Books from x + 212 on; the script at bs *)  -/
def VL (G : Gt) (x : Nat) (σ : Blk) (B : Nat → Blk) (nb : Nat) (τ : Blk) (H : Heap) : Prop := WX G x (x + 212) σ B nb H ∧ Bk G (layTab G (x + 205)) 7 (x + 205) τ H
theorem VL.wv {G : Gt} {x : Nat} {τ : Blk} : WV G x (x + 212) (fun σ B nb => VL G x σ B nb τ) := by
  refine ⟨fun _ _ _ _ h => h.1, fun σ B nb σ' B' nb' H H1 h hW hs ho => ⟨hW, fun i hi => (h.2 i hi).kept (ho _ ?_ ?_)⟩⟩
  · obtain ⟨-, -, h3, h4, h5⟩ := h.1
    show x + 205 + i < _
    omega
  · unfold Rx
    show ¬ ((x ≤ x + 205 + i ∧ x + 205 + i < x + 205) ∨ x + 212 ≤ x + 205 + i)
    omega
theorem VL.wd {G : Gt} {x nb : Nat} {σ : Blk} {B : Nat → Blk} : Wd G (layTab G (x + 205)) 7 (x + 205) (fun τ => VL G x σ B nb τ) := by
  refine ⟨fun _ _ h => h.2, fun τ τ' H H1 h hB hz ho => ⟨?_, hB⟩⟩
  obtain ⟨h1, h2, h3, h4, h5⟩ := h.1
  refine ⟨fun i hi => (h1 i hi).kept (ho _ (by show x + i < _ ∨ _ ≤ x + i; omega)), fun k hk i hi => (h2 k hk i hi).kept (ho _ ?_), by omega, h4, h5⟩
  show ad x (x + 212) k + i < x + 205 ∨ x + 205 + 7 ≤ ad x (x + 212) k + i
  unfold ad
  split
  · omega
  · split <;> omega
abbrev Dp : Type := Blk × (Nat → Blk) × Nat × Blk
def poD (G : Gt) (x : Nat) (z : Int × Dp) (v : Option Value) (H : Heap) : Prop := v = some (vI z.1) ∧ inR z.1 ∧ Rg z.2.1 ∧ RgB z.2.2.1 ∧ 2 ≤ z.2.2.2.1 ∧ Rg z.2.2.2.2 ∧ VL G x z.2.1 z.2.2.1 z.2.2.2.1 z.2.2.2.2 H
def bd5 {α : Type} (kc : Option (Int × Dp)) (K : Int → Blk → (Nat → Blk) → Nat → Blk → Option α) : Option α := kc.bind fun z => K z.1 z.2.1 z.2.2.1 z.2.2.2.1 z.2.2.2.2
/-- what the end of the law is: with 1 its own end, with 0 nothing is said -/
def QL (below : List Frame) (bs : Nat) (s : State) : Int → State → Prop := fun z t => z = 1 → lw_Z below #[Value.ref bs] s t
/-- the script's int at a place, or the number that stands for it behind its end -/
def scV (xs : Nat → Int32) (Ls : Nat) (a : Int) : Int := if a < (Ls : Int) then (xs a.toNat).toInt else ((901371889 : Int32) * (Int32.ofInt a + 1) + 1284385391).toInt
def cellP (xs : Nat → Int32) (Ls : Nat) (a : Int) : Option Int := if 0 ≤ a then some (scV xs Ls a) else none
theorem scV_in {xs : Nat → Int32} {Ls : Nat} {a : Int} : inR (scV xs Ls a) := by
  unfold scV
  split <;> exact i32_in _
theorem dd_yL_cell : yL_cell.cls ≠ "java/lang/invoke/MethodHandle" ∧ yL_cell.cls ≠ "java/lang/invoke/VarHandle" ∧ (parseMethodDescriptor yL_cell.desc).map (fun d => d.parameters.length) = some 2 := by decide +kernel
section LAWR
variable {p : Program} {l : Launch} {e : Env} {s : State} {m : MethodId} {below : List Frame} {meth : Method} {c : Code} {bs Ls : Nat} {xs : Nat → Int32}
variable {R : Room} {args : Array Value} {cc : ByteArray} {nL : Nat} {own : String}
variable {α β : Type} {A : Nat → Prop} {Q : α → State → Prop} {k n : Nat} {I : Heap → Prop} {pc : Nat} {L L' : List (Nat × Value)} {st : List Value} {kk : Option α}
theorem l_ret0 {pc : Nat} {st : List Value} : Sim p l e R s m args below meth c nL A (QL below bs s) k n I pc L st (some 0) := fun x hx H locs ls hI hS hL T hT X => by
  cases hx
  exact ⟨_, Steps.refl _, fun h => by cases h⟩
theorem l_ret1 (C : Cx p s m #[Value.ref bs] meth c code nL own) (hr : meth.sig.returnType = ret) (hAs : ∀ q, A q → s.heap.size ≤ q) (hk : k ≤ 600000) (hn : n ≤ 7302250) {pc : Nat} (hd : decode code pc = .ok (.ireturn, 1)) : Sim p l e room_1 s m #[Value.ref bs] below meth c nL A (QL below bs s) k n I pc L [vI 1] (some 1) := fun x hx H locs ls hI hS hL => by
  cases hx
  refine va_forget (fun q hq => hAs _ (hS.2.2 q hq)) (W.widen hk hn ?_)
  intro T hT X
  obtain ⟨t, h1, h2⟩ := lw_ret (l := l) (e := e) (c := c) (H := H) (ls := ls) C.1 C.2.1 hr C.2.2.2.2.2 hd T hT X
  exact ⟨t, h1, fun _ => h2⟩
/-- a call of a method that may change the object and the tables -/
theorem l_callD (C : Cx p s m args meth c cc nL own) {G : Gt} (hK : KA G s) {x nb : Nat} {σ τ : Blk} {B : Nat → Blk} {y : MethodName} {bytes : ByteArray} {maxL ix : Nat} {ret : Option FieldType} {rm : Room} {As rest st0 : List Value} {A1 : Nat → Prop} {kc : Option (Int × Dp)} {K : Int → Blk → (Nat → Blk) → Nat → Blk → Option α} (np : Nat)
    (hM : MetS l y bytes maxL ret rm G As (VL G x σ B nb τ) (poD G x) A1 0 0 kc) (hA : ∀ q, A1 q → A q) (hst0 : As.reverse ++ rest = st0) (hq : CallB R s args own ix y bytes maxL ret (.code y bytes maxL ret :: lw_g) rm 0 0 np) (hst : Cond.static y ∈ lw_g)
    (hnp : As.length = np) (hcat : (rest.map fun v => v.category).sum ≤ 8) (hd : decode cc pc = .ok (.invokestatic ix, 3)) (hf : k ≤ R.cells ∧ n ≤ R.slots)
    (h : ∀ r σ' B' nb' τ', inR r → Rg σ' → RgB B' → 2 ≤ nb' → Rg τ' → Sim p l e R s m args below meth c nL A Q k n (VL G x σ' B' nb' τ') (pc + 3) L (vI r :: rest) (K r σ' B' nb' τ')) : Sim p l e R s m args below meth c nL A Q k n (VL G x σ B nb τ) pc L st0 (bd5 kc K) := by
  subst hst0
  refine s_callS (K := fun z => K z.1 z.2.1 z.2.2.1 z.2.2.2.1 z.2.2.2.2) C hK np hM hA hq hst hnp hcat hd hf (fun z v _ => fun x hx H locs ls hI hS hL => ?_)
  obtain ⟨rfl, h1, h2, h3, h4, h5, h6⟩ := hI
  exact h _ _ _ _ _ h1 h2 h3 h4 h5 x hx H locs ls h6 hS hL
/-! the script's cells, by the law's method 'cell' -/
theorem pcc_blind {avs : List Value} {G : Gt} {I : Heap → Prop} : FrameBlind (va_Pc avs (fun U => (va_X bs Ls xs U U.heap ∧ I U.heap) ∧ KA G U)) := fun a U g mk q => ⟨q.1, ⟨q.2.1.1.moved (Vm.Alike.refl U.vm), q.2.1.2⟩, KA.same (u := U) (U := U.calling g mk a) (Vm.Alike.refl U.vm) rfl q.2.2⟩
theorem l_slen (C : Cx p s m args meth c cc nL own) (hX : va_X bs Ls xs s s.heap) (hbl : bs < s.heap.size) (hbA : ¬ A bs) (hd : decode cc pc = .ok (.arraylength, 1)) (h : Sim p l e R s m args below meth c nL A Q k n I (pc + 1) L (vI (Ls : Int) :: st) kk) : Sim p l e R s m args below meth c nL A Q k n I pc L (.ref bs :: st) kk := fun x hx H locs ls hI hS hL =>
  va_slen C.1 C.2.1 hX hbl hbA hS hd (by rw [← Int32.ofInt_eq_ofNat]; exact h x hx H locs ls hI hS hL)
theorem l_sldN (C : Cx p s m args meth c cc nL own) (hX : va_X bs Ls xs s s.heap) (hbl : bs < s.heap.size) (hbA : ¬ A bs) (hLs : Ls ≤ 2048) {j : Int} (hj : 0 ≤ j) (hjl : j < (Ls : Int)) (hd : decode cc pc = .ok (.iaload, 1)) (h : Sim p l e R s m args below meth c nL A Q k n I (pc + 1) L (vI ((xs j.toNat).toInt) :: st) kk) : Sim p l e R s m args below meth c nL A Q k n I pc L (vI j :: .ref bs :: st) kk := fun x hx H locs ls hI hS hL => by
  have hjr : inR j := ⟨by omega, by omega⟩
  refine va_sld C.1 C.2.1 hX hbl hbA hS (i32_vin hj hjl (by omega)) hd ?_
  rw [i32_nat hjr]
  have h9 := h x hx H locs ls hI hS hL
  rw [vI, i32_to] at h9
  exact h9
theorem m_L_cell {l : Launch} {G : Gt} {I : Heap → Prop} {a : Int} (ha : inR a) (h0 : 0 ≤ a) (hLs : Ls ≤ 2048) : Met l yL_cell (.code yL_cell cL_cell 2 (some .int) :: lw_g) { frames := 0, cells := 0, slots := 0, locals := 0 } (va_Pc [.ref bs, vI a] (fun U => (va_X bs Ls xs U U.heap ∧ I U.heap) ∧ KA G U)) (Qm (poP I (scV xs Ls a)) (fun _ => False)) 0 0 (fun _ => False) := by
  refine Met.ofW (cc := cL_cell) (maxL := 2) (ret := some .int) (by decide) rfl ?_
  intro p e s m args below meth c s₁ B hml hv
  obtain ⟨rfl, ⟨hX, hI⟩, hK⟩ := hv
  rw [lg_entry_eq]
  have hC : Cx p s m [Value.ref bs, vI a].toArray meth c cL_cell 2 RL := ⟨B.exec, B.bytes, hml, findClass_of_methodNamed B.named, fun w hw => atoms_spec (ws := .code yL_cell cL_cell 2 (some .int) :: lw_g) B.pre w (List.mem_cons_of_mem _ hw), B.notSynchronized⟩
  have hr := B.returns
  have hbl : bs < s.heap.size := by
    obtain ⟨scr, h1, -⟩ := hX
    exact (Array.getElem?_eq_some_iff.mp h1).1
  have hbA : ¬ (fun _ : Nat => False) bs := fun h => h
  have key : Sim p l e { frames := 0, cells := 0, slots := 0, locals := 0 } s m [Value.ref bs, vI a].toArray below meth c 2 (fun _ => False) (fun x => MQ below (Qm (poP I x) (fun _ => False)) [Value.ref bs, vI a].toArray s 0 0 (fun _ => False)) 0 0 I 0 [(0, .ref bs), (1, vI a)] [] (some (scV xs Ls a)) := by
    refine s_iload_n hC dL_cell_0 rfl 1 rfl ?_
    refine s_aload_n hC dL_cell_1 rfl 0 rfl ?_
    refine l_slen hC hX hbl hbA dL_cell_2 ?_
    unfold scV
    by_cases h1 : a < (Ls : Int)
    · rw [if_pos h1]
      have h2 : Sim p l e { frames := 0, cells := 0, slots := 0, locals := 0 } s m [Value.ref bs, vI a].toArray below meth c 2 (fun _ => False) (fun x => MQ below (Qm (poP I x) (fun _ => False)) [Value.ref bs, vI a].toArray s 0 0 (fun _ => False)) 0 0 I 3 [(0, .ref bs), (1, vI a)] [vI (Ls : Int), vI a] (if (Ls : Int) ≤ a then none else some ((xs a.toNat).toInt)) := by
        refine s_icmp_ge (tgt := 12) hC dL_cell_3 (by decide) ha ⟨by omega, by omega⟩ s_none ?_
        refine s_aload_n hC dL_cell_6 rfl 0 rfl ?_
        refine s_iload_n hC dL_cell_7 rfl 1 rfl ?_
        refine l_sldN hC hX hbl hbA hLs h0 h1 dL_cell_8 ?_
        refine s_goto (tgt := 21) hC dL_cell_9 (by decide) ?_
        exact s_iret hC hr dL_cell_21 (fun H hH => ⟨rfl, i32_in _, hH⟩)
      rw [if_neg (by omega)] at h2
      exact h2
    · rw [if_neg h1]
      have h2 : Sim p l e { frames := 0, cells := 0, slots := 0, locals := 0 } s m [Value.ref bs, vI a].toArray below meth c 2 (fun _ => False) (fun x => MQ below (Qm (poP I x) (fun _ => False)) [Value.ref bs, vI a].toArray s 0 0 (fun _ => False)) 0 0 I 3 [(0, .ref bs), (1, vI a)] [vI (Ls : Int), vI a] (if (Ls : Int) ≤ a then some (((901371889 : Int32) * (Int32.ofInt a + 1) + 1284385391).toInt) else none) := by
        refine s_icmp_ge (tgt := 12) hC dL_cell_3 (by decide) ha ⟨by omega, by omega⟩ ?_ s_none
        refine s_ldc (a := 901371889) hC q_k_L_7 rfl dL_cell_12 ?_
        refine s_iload_n hC dL_cell_14 rfl 1 rfl ?_
        refine s_iconst hC dL_cell_15 ?_
        refine s_iadd hC dL_cell_16 ?_
        refine s_imul hC dL_cell_17 ?_
        refine s_ldc (a := 1284385391) hC q_k_L_8 rfl dL_cell_18 ?_
        refine s_iadd hC dL_cell_20 ?_
        refine s_iret hC hr dL_cell_21 (fun H hH => ⟨?_, i32_in _, hH⟩)
        rw [vI, vI, i32_to, Int32.ofInt_add, Int32.ofInt_mul, Int32.ofInt_add]
        rfl
      rw [if_pos (by omega)] at h2
      exact h2
  exact key _ rfl s.heap [] _ hI va_S.rf (lv_entry [.ref bs, vI a] (Nat.le_of_ble_eq_true rfl))
theorem l_cell (C : Cx p s m args meth c cc nL own) {G : Gt} (hK : KA G s) (hX : va_X bs Ls xs s s.heap) (hbl : bs < s.heap.size) (hbA : ¬ A bs) (hLs : Ls ≤ 2048) {a : Int} {rest : List Value} {ix : Nat} {K : Int → Option α} (ha : inR a) (hm : Cond.methodLink own ix yL_cell ∈ lw_g) (hcat : (rest.map fun v => v.category).sum ≤ 8) (hd : decode cc pc = .ok (.invokestatic ix, 3)) (hf : k ≤ R.cells ∧ n ≤ R.slots) (hR : 1 ≤ R.frames ∧ 21 ≤ R.locals)
    (h : ∀ v, inR v → Sim p l e R s m args below meth c nL A Q k n I (pc + 3) L (vI v :: rest) (K v)) : Sim p l e R s m args below meth c nL A Q k n I pc L (vI a :: .ref bs :: rest) ((cellP xs Ls a).bind K) := s_bind fun z hz x hx H locs ls hI hS hL => by
  unfold cellP at hz
  split at hz
  · rename_i h0
    cases hz
    refine s_run (G := G) (y := yL_cell) (po := poP I (scV xs Ls a)) (A1 := fun _ => False) (fun _ h => h.elim) (va_runS (As := [.ref bs, vI a]) (rest := rest) ⟨C.1, C.2.1, C.2.2.1, C.2.2.2.1, C.2.2.2.2.1⟩ (m_L_cell (xs := xs) (G := G) (I := I) ha h0 hLs) ⟨cb_of C 2 q_c_yL_cell q_i_L hm rfl rfl dd_yL_cell ⟨by show 0 + 1 ≤ _; omega, by show 8 + (2 + 11) + 0 ≤ _; omega⟩, C.2.2.2.2.1 _ q_s_yL_cell⟩ ⟨pcc_blind, fun U hU hW => ⟨rfl, ⟨?_, by rw [hU]; exact hI⟩, KA.warm hW hK⟩⟩ rfl rfl hL.1 rfl (lv_room hcat) hd hf) hS (fun v H1 locs1 hp hz1 hk1 hS1 => ?_)
    · rw [hU]
      exact (hX.moved hW.alike).kept (hS.2.1 bs hbl hbA)
    · obtain ⟨rfl, h1, h2⟩ := hp
      exact h _ h1 x hx H1 locs1 ls h2 hS1 hL
  · cases hz
end LAWR
