/-! METHODS: entry, returns, calls -/
theorem gd_tbl {y : MethodName} {cc : ByteArray} {maxL : Nat} {ret : Option FieldType} (h : Cond.code y cc maxL ret ∈ lw_g) : GoodIn lw_g (.code y cc maxL ret :: lw_g) := fun w hw => by
  have h1 : w ∈ lw_g := by
    rcases List.mem_cons.mp hw with h2 | h2
    · rw [h2]; exact h
    · exact h2
  exact ⟨h1, good_of_word (List.mem_filter.mp h1).2⟩
/-- a method's contract over a picture: wherever the picture kk comes to x, the method ends with po x -/
def MetS (l : Launch) (y : MethodName) (cc : ByteArray) (maxL : Nat) (ret : Option FieldType) (rm : Room) (G : Gt) {β : Type} (avs : List Value) (I : Heap → Prop) (po : β → Option Value → Heap → Prop) (A : Nat → Prop) (mc ms : Nat) (kk : Option β) : Prop :=
  ∀ x, kk = some x → Met l y (.code y cc maxL ret :: lw_g) rm (va_Pc avs (fun U => I U.heap ∧ KA G U)) (Qm (po x) A) mc ms A
theorem met_of {l : Launch} {y : MethodName} {cc : ByteArray} {maxL : Nat} {ret : Option FieldType} {rm : Room} {G : Gt} {β : Type} {avs : List Value} {I : Heap → Prop} {po : β → Option Value → Heap → Prop} {A : Nat → Prop} {mc ms : Nat} {kk : Option β} (hy : plainName y.cls = true) (hlen : (lg_sl avs).length ≤ maxL)
    (body : ∀ (p : Program) (e : Env) (s : State) (m : MethodId) (below : List Frame) (meth : Method) (c : Code), Cx p s m avs.toArray meth c cc maxL y.cls → KA G s → meth.sig.returnType = ret → meth.name = y.name → Sim p l e rm s m avs.toArray below meth c maxL A (fun x => MQ below (Qm (po x) A) avs.toArray s mc ms A) 0 0 I 0 (lv_args 0 avs) [] kk) : MetS l y cc maxL ret rm G avs I po A mc ms kk := by
  intro x hx
  refine Met.ofW (cc := cc) (maxL := maxL) (ret := ret) hy rfl ?_
  intro p e s m args below meth c s₁ B hml hv
  obtain ⟨rfl, hI, hK⟩ := hv
  rw [lg_entry_eq]
  exact body p e s m below meth c ⟨B.exec, B.bytes, hml, findClass_of_methodNamed B.named, fun w hw => atoms_spec (ws := .code y cc maxL ret :: lw_g) B.pre w (List.mem_cons_of_mem _ hw), B.notSynchronized⟩ hK B.returns (name_of_methodNamed B.named B.method).1 x hx s.heap [] _ hI va_S.rf (lv_entry avs hlen)
section CALLS
variable {p : Program} {l : Launch} {e : Env} {R : Room} {s : State} {m : MethodId} {args : Array Value} {below : List Frame} {meth : Method} {c : Code}
variable {cc : ByteArray} {nL : Nat} {own : String}
variable {α β : Type} {A : Nat → Prop} {Q : α → State → Prop} {k n : Nat} {I : Heap → Prop} {pc : Nat} {L L' : List (Nat × Value)} {st : List Value} {kk : Option α}
theorem s_iret {po : α → Option Value → Heap → Prop} (C : Cx p s m args meth c cc nL own) (hr : meth.sig.returnType = some .int) {a : Int} {x : α} (hd : decode cc pc = .ok (.ireturn, 1)) (h : ∀ H, I H → po x (some (vI a)) H) : Sim p l e R s m args below meth c nL A (fun x => MQ below (Qm (po x) A) args s k n A) k n I pc L [vI a] (some x) := fun x' hx' H locs ls hI hS hL => by
  cases hx'
  exact W.iret C.1 C.2.1 hr (fun t ht hW => ⟨⟨_, rfl, by rw [ht]; exact h H hI⟩, hS.F ht⟩) hS.2.2 hd C.2.2.2.2.2
theorem s_zret {po : α → Option Value → Heap → Prop} (C : Cx p s m args meth c cc nL own) (hr : meth.sig.returnType = some .boolean) {a : Int} {x : α} (ha : a = 0 ∨ a = 1) (hd : decode cc pc = .ok (.ireturn, 1)) (h : ∀ H, I H → po x (some (vI a)) H) : Sim p l e R s m args below meth c nL A (fun x => MQ below (Qm (po x) A) args s k n A) k n I pc L [vI a] (some x) := fun x' hx' H locs ls hI hS hL => by
  cases hx'
  exact W.zret C.1 C.2.1 hr (by rcases ha with rfl | rfl <;> decide) (fun t ht hW => ⟨⟨_, rfl, by rw [ht]; exact h H hI⟩, hS.F ht⟩) hS.2.2 hd C.2.2.2.2.2
theorem s_vret {po : α → Option Value → Heap → Prop} (C : Cx p s m args meth c cc nL own) (hr : meth.sig.returnType = none) {x : α} (hd : decode cc pc = .ok (.return_, 1)) (h : ∀ H, I H → po x none H) : Sim p l e R s m args below meth c nL A (fun x => MQ below (Qm (po x) A) args s k n A) k n I pc L [] (some x) := fun x' hx' H locs ls hI hS hL => by
  cases hx'
  exact W.vret C.1 C.2.1 hr (fun t ht hW => ⟨⟨_, rfl, by rw [ht]; exact h H hI⟩, hS.F ht⟩) hS.2.2 hd C.2.2.2.2.2
/-- behind any call: what va_Run gives, with an end of the form Qm -/
theorem s_run {G : Gt} {y : MethodName} {rest st0 : List Value} {po : Option Value → Heap → Prop} {A1 : Nat → Prop} {mc ms : Nat} {a : Array Value} {x : α} {H : Heap} {locs : List Loc} {ls : Array Slot} (hA : ∀ q, A1 q → A q) (hrun : va_Run p l e R s m args below meth c H locs k n mc ms (F0 m pc ls st0) rest (Qm po A1 a) A1) (hS : va_S A s.heap H locs)
    (h : ∀ v H1 locs1, po v H1 → H.size ≤ H1.size → (∀ q, q < H.size → ¬ A1 q → H1[q]? = H[q]?) → va_S A s.heap H1 locs1 → W p l e R s m args below meth c H1 locs1 (k + mc) (n + ms) (Q x) (F0 m (pc + 3) ls (v.toList ++ rest))) : W p l e R s m args below meth c H locs k n (Q x) (F0 m pc ls st0) := by
  intro T hT X
  obtain ⟨v, st₀, t, T', L1, h0, X', hL, e1, e2, ⟨⟨v', hv, hp⟩, hz, hk⟩, st1⟩ := hrun T hT X
  cases hv
  rw [h0] at hz hk
  obtain ⟨t2, a1, b1⟩ := h v T'.heap (locs ++ L1) (by rw [e1]; exact hp) (by rw [e1]; exact hz) (fun q h1 h2 => by rw [e1]; exact hk q h1 h2)
    ⟨Nat.le_trans hS.1 (by rw [e1]; exact hz), fun q h1 h2 => by rw [e1, hk q (Nat.lt_of_lt_of_le h1 hS.1) (fun z => h2 (hA q z))]; exact hS.2.1 q h1 h2, fun q hq => by
      rcases List.mem_append.mp hq with h | h
      · exact hS.2.2 q h
      · exact hA _ (hL q h)⟩ T' rfl X'
  exact ⟨t2, st1 t2 a1, b1⟩
theorem pc_blind {avs : List Value} {I : Heap → Prop} {G : Gt} : FrameBlind (va_Pc avs (fun U => I U.heap ∧ KA G U)) := fun a U g mk q => ⟨q.1, q.2.1, KA.same (u := U) (U := U.calling g mk a) (Vm.Alike.refl U.vm) rfl q.2.2⟩
theorem pc_in {avs : List Value} {I : Heap → Prop} {G : Gt} {H : Heap} (hK : KA G s) (hI : I H) (U : State) (hU : U.heap = H) (hW : s.WarmedH U.vm) : va_Pc avs (fun U => I U.heap ∧ KA G U) avs.toArray U := ⟨rfl, by rw [hU]; exact hI, KA.warm hW hK⟩
theorem cb_of (C : Cx p s m args meth c cc nL own) {y : MethodName} {bytes : ByteArray} {maxL : Nat} {ret : Option FieldType} {rm : Room} {mc ms ix : Nat} (np : Nat) (hcode : Cond.code y bytes maxL ret ∈ lw_g) (hini : Cond.initialized y.cls ∈ lw_g) (hl : Cond.methodLink own ix y ∈ lw_g) (hrc : rm.cells = mc) (hrs : rm.slots = ms)
    (hd : y.cls ≠ "java/lang/invoke/MethodHandle" ∧ y.cls ≠ "java/lang/invoke/VarHandle" ∧ (parseMethodDescriptor y.desc).map (fun d => d.parameters.length) = some np) (hR : rm.frames + 1 ≤ R.frames ∧ 8 + (maxL + 11) + rm.locals ≤ R.locals) : CallB R s args own ix y bytes maxL ret (.code y bytes maxL ret :: lw_g) rm mc ms np :=
  callB_of np C.2.2.2.2.1 (gd_tbl hcode) rfl hrc hrs (C.2.2.2.2.1 _ hini) (C.2.2.2.2.1 _ hl) hd hR
/-- a call of an object's method -/
theorem s_callV (C : Cx p s m args meth c cc nL own) {G : Gt} (hK : KA G s) {y : MethodName} {bytes : ByteArray} {maxL ix : Nat} {ret : Option FieldType} {rm : Room} {As rest : List Value} {a : Nat} {po : β → Option Value → Heap → Prop} {A1 : Nat → Prop} {mc ms : Nat} {kc : Option β} {K : β → Option α} (np : Nat)
    (hM : MetS l y bytes maxL ret rm G (.ref a :: As) I po A1 mc ms kc) (hA : ∀ q, A1 q → A q) (hq : CallB R s args own ix y bytes maxL ret (.code y bytes maxL ret :: lw_g) rm mc ms np) (hin : Cond.instanceMethod y ∈ lw_g) (hse : Cond.selects y.cls y y ∈ lw_g) (hrv : ∀ H, I H → ∃ cell : Cell, H[a]? = some cell ∧ cell.vm.isStatics = false ∧ s.vm.findClass y.cls = some cell.cls)
    (hnp : As.length = np) (hcat : (rest.map fun v => v.category).sum ≤ 8) (hd : decode cc pc = .ok (.invokevirtual ix, 3)) (hf : k + mc ≤ R.cells ∧ n + ms ≤ R.slots)
    (h : ∀ x v, kc = some x → Sim p l e R s m args below meth c nL A Q (k + mc) (n + ms) (po x v) (pc + 3) L (v.toList ++ rest) (K x)) : Sim p l e R s m args below meth c nL A Q k n I pc L (As.reverse ++ .ref a :: rest) (kc.bind K) := s_bind fun z hz x hx H locs ls hI hS hL =>
  s_run (G := G) (y := y) hA (va_runV (b := a) (As := As) (rest := rest) (C := y.cls) ⟨C.1, C.2.1, C.2.2.1, C.2.2.2.1, C.2.2.2.2.1⟩ (hM z hz) ⟨hq, C.2.2.2.2.1 _ hin, C.2.2.2.2.1 _ hse⟩ ⟨pc_blind, hrv H hI, fun U hU hW => pc_in hK hI U hU hW⟩ rfl hnp hL.1 rfl (lv_room hcat) hd hf) hS (fun v H1 locs1 hp _ _ hS1 => h z v hz x hx H1 locs1 ls hp hS1 hL)
/-- a call of a static method -/
theorem s_callS (C : Cx p s m args meth c cc nL own) {G : Gt} (hK : KA G s) {y : MethodName} {bytes : ByteArray} {maxL ix : Nat} {ret : Option FieldType} {rm : Room} {As rest : List Value} {po : β → Option Value → Heap → Prop} {A1 : Nat → Prop} {mc ms : Nat} {kc : Option β} {K : β → Option α} (np : Nat)
    (hM : MetS l y bytes maxL ret rm G As I po A1 mc ms kc) (hA : ∀ q, A1 q → A q) (hq : CallB R s args own ix y bytes maxL ret (.code y bytes maxL ret :: lw_g) rm mc ms np) (hst : Cond.static y ∈ lw_g)
    (hnp : As.length = np) (hcat : (rest.map fun v => v.category).sum ≤ 8) (hd : decode cc pc = .ok (.invokestatic ix, 3)) (hf : k + mc ≤ R.cells ∧ n + ms ≤ R.slots)
    (h : ∀ x v, kc = some x → Sim p l e R s m args below meth c nL A Q (k + mc) (n + ms) (po x v) (pc + 3) L (v.toList ++ rest) (K x)) : Sim p l e R s m args below meth c nL A Q k n I pc L (As.reverse ++ rest) (kc.bind K) := s_bind fun z hz x hx H locs ls hI hS hL =>
  s_run (G := G) (y := y) hA (va_runS (As := As) (rest := rest) ⟨C.1, C.2.1, C.2.2.1, C.2.2.2.1, C.2.2.2.2.1⟩ (hM z hz) ⟨hq, C.2.2.2.2.1 _ hst⟩ ⟨pc_blind, fun U hU hW => pc_in hK hI U hU hW⟩ rfl hnp hL.1 rfl (lv_room hcat) hd hf) hS (fun v H1 locs1 hp _ _ hS1 => h z v hz x hx H1 locs1 ls hp hS1 hL)
/-! three kinds of methods: an answer alone; an answer and a new state; a new state alone -/
def poP (I : Heap → Prop) (r : Int) (v : Option Value) (H : Heap) : Prop := v = some (vI r) ∧ inR r ∧ I H
def poW (J : Blk → Heap → Prop) (x : Int × Blk) (v : Option Value) (H : Heap) : Prop := v = some (vI x.1) ∧ inR x.1 ∧ Rg x.2 ∧ J x.2 H
def poU (J : Blk → Heap → Prop) (σ : Blk) (v : Option Value) (H : Heap) : Prop := v = none ∧ Rg σ ∧ J σ H
def bd2 (x : Option (Int × Blk)) (K : Int → Blk → Option α) : Option α := x.bind fun z => K z.1 z.2
theorem s_poP {r : Int} {v : Option Value} {rest : List Value} (h : inR r → Sim p l e R s m args below meth c nL A Q k n I pc L (vI r :: rest) kk) : Sim p l e R s m args below meth c nL A Q k n (poP I r v) pc L (v.toList ++ rest) kk := fun x hx H locs ls hI hS hL => by
  obtain ⟨rfl, h1, h2⟩ := hI
  exact h h1 x hx H locs ls h2 hS hL
theorem s_poW {J : Blk → Heap → Prop} {z : Int × Blk} {v : Option Value} {rest : List Value} (h : inR z.1 → Rg z.2 → Sim p l e R s m args below meth c nL A Q k n (J z.2) pc L (vI z.1 :: rest) kk) : Sim p l e R s m args below meth c nL A Q k n (poW J z v) pc L (v.toList ++ rest) kk := fun x hx H locs ls hI hS hL => by
  obtain ⟨rfl, h1, h2, h3⟩ := hI
  exact h h1 h2 x hx H locs ls h3 hS hL
theorem s_poU {J : Blk → Heap → Prop} {σ : Blk} {v : Option Value} {rest : List Value} (h : Rg σ → Sim p l e R s m args below meth c nL A Q k n (J σ) pc L rest kk) : Sim p l e R s m args below meth c nL A Q k n (poU J σ v) pc L (v.toList ++ rest) kk := fun x hx H locs ls hI hS hL => by
  obtain ⟨rfl, h1, h2⟩ := hI
  exact h h1 x hx H locs ls h2 hS hL
theorem s_recv {G : Gt} (hK : KK G s) {lay : Lay} {N b i ci : Nat} {σ : Blk} {fs : (Nat → Int) → List Value} {q : vw_C} (hB : ∀ H, I H → Bk G lay N b σ H) (hi : i < N) (ho : isO lay i ci fs) (hc : vwCl[ci]? = some q) : ∀ H, I H → ∃ cell : Cell, H[b + i]? = some cell ∧ cell.vm.isStatics = false ∧ s.vm.findClass q.1 = some cell.cls := fun H hH => by
  have h0 := hB H hH i hi
  rw [ho (σ i)] at h0
  exact va_recv (ws := [(b + i, .inr (ci, fs (σ i)))]) (q0 := 0) hK (fun j z hz => by
    match j, hz with
    | 0, hz => cases hz; exact h0
    | j + 1, hz => simp at hz) hc rfl
end CALLS
section CALLS2
variable {p : Program} {l : Launch} {e : Env} {R : Room} {s : State} {m : MethodId} {args : Array Value} {below : List Frame} {meth : Method} {c : Code}
variable {cc : ByteArray} {nL : Nat} {own : String}
variable {α β : Type} {A : Nat → Prop} {Q : α → State → Prop} {k n : Nat} {I : Heap → Prop} {pc : Nat} {L L' : List (Nat × Value)} {st : List Value} {kk : Option α}
def nm {α : Type} (a : Int) (K : Int → Option α) : Option α := K a
theorem s_nm {a : Int} {K : Int → Option α} (ha : inR a) (h : ∀ v, inR v → Sim p l e R s m args below meth c nL A Q k n I pc L (vI v :: st) (K v)) : Sim p l e R s m args below meth c nL A Q k n I pc L (vI a :: st) (nm a K) := h a ha
theorem s_iincK (C : Cx p s m args meth c cc nL own) {i : Nat} {a z : Int} {K : Int → Option α} (hd : decode cc pc = .ok (.iinc i z, 3)) (q : Nat) (hq : L[q]? = some (i, vI a)) (hn : i < nL) (L1 : Int → List (Nat × Value)) (hl : ∀ v, (i, vI v) :: L.filter (fun q => !(q.1 == i) && !(q.1 + 1 == i && q.2.category == 2)) = L1 v) (h : ∀ v, inR v → Sim p l e R s m args below meth c nL A Q k n I (pc + 3) (L1 v) st (K v)) : Sim p l e R s m args below meth c nL A Q k n I pc L st ((ck (a + z)).bind K) := s_ck fun hv => s_iinc C hd q hq hn (hl _) (h _ hv)
theorem s_callV_P (C : Cx p s m args meth c cc nL own) {G : Gt} (hK : KA G s) {y : MethodName} {bytes : ByteArray} {maxL ix : Nat} {ret : Option FieldType} {rm : Room} {As rest st0 : List Value} {a : Nat} {kc : Option Int} {K : Int → Option α} (np : Nat)
    (hM : MetS l y bytes maxL ret rm G (.ref a :: As) I (poP I) (fun _ => False) 0 0 kc) (hst0 : As.reverse ++ .ref a :: rest = st0) (hq : CallB R s args own ix y bytes maxL ret (.code y bytes maxL ret :: lw_g) rm 0 0 np) (hin : Cond.instanceMethod y ∈ lw_g) (hse : Cond.selects y.cls y y ∈ lw_g) (hrv : ∀ H, I H → ∃ cell : Cell, H[a]? = some cell ∧ cell.vm.isStatics = false ∧ s.vm.findClass y.cls = some cell.cls)
    (hnp : As.length = np) (hcat : (rest.map fun v => v.category).sum ≤ 8) (hd : decode cc pc = .ok (.invokevirtual ix, 3)) (hf : k ≤ R.cells ∧ n ≤ R.slots)
    (h : ∀ r, inR r → Sim p l e R s m args below meth c nL A Q k n I (pc + 3) L (vI r :: rest) (K r)) : Sim p l e R s m args below meth c nL A Q k n I pc L st0 (kc.bind K) := by
  subst hst0
  exact s_callV C hK np hM (fun _ h => h.elim) hq hin hse hrv hnp hcat hd hf (fun r v _ => s_poP (fun hr => h r hr))
theorem s_callV_W (C : Cx p s m args meth c cc nL own) {G : Gt} (hK : KA G s) {y : MethodName} {bytes : ByteArray} {maxL ix : Nat} {ret : Option FieldType} {rm : Room} {As rest st0 : List Value} {a : Nat} {J : Blk → Heap → Prop} {σ : Blk} {A1 : Nat → Prop} {kc : Option (Int × Blk)} {K : Int → Blk → Option α} (np : Nat)
    (hM : MetS l y bytes maxL ret rm G (.ref a :: As) (J σ) (poW J) A1 0 0 kc) (hA : ∀ q, A1 q → A q) (hst0 : As.reverse ++ .ref a :: rest = st0) (hq : CallB R s args own ix y bytes maxL ret (.code y bytes maxL ret :: lw_g) rm 0 0 np) (hin : Cond.instanceMethod y ∈ lw_g) (hse : Cond.selects y.cls y y ∈ lw_g) (hrv : ∀ H, J σ H → ∃ cell : Cell, H[a]? = some cell ∧ cell.vm.isStatics = false ∧ s.vm.findClass y.cls = some cell.cls)
    (hnp : As.length = np) (hcat : (rest.map fun v => v.category).sum ≤ 8) (hd : decode cc pc = .ok (.invokevirtual ix, 3)) (hf : k ≤ R.cells ∧ n ≤ R.slots)
    (h : ∀ r σ', inR r → Rg σ' → Sim p l e R s m args below meth c nL A Q k n (J σ') (pc + 3) L (vI r :: rest) (K r σ')) : Sim p l e R s m args below meth c nL A Q k n (J σ) pc L st0 (bd2 kc K) := by
  subst hst0
  exact s_callV (K := fun z => K z.1 z.2) C hK np hM hA hq hin hse hrv hnp hcat hd hf (fun z v _ => s_poW (fun hr hs => h z.1 z.2 hr hs))
theorem s_callV_U (C : Cx p s m args meth c cc nL own) {G : Gt} (hK : KA G s) {y : MethodName} {bytes : ByteArray} {maxL ix : Nat} {ret : Option FieldType} {rm : Room} {As rest st0 : List Value} {a : Nat} {J : Blk → Heap → Prop} {σ : Blk} {A1 : Nat → Prop} {kc : Option Blk} {K : Blk → Option α} (np : Nat)
    (hM : MetS l y bytes maxL ret rm G (.ref a :: As) (J σ) (poU J) A1 0 0 kc) (hA : ∀ q, A1 q → A q) (hst0 : As.reverse ++ .ref a :: rest = st0) (hq : CallB R s args own ix y bytes maxL ret (.code y bytes maxL ret :: lw_g) rm 0 0 np) (hin : Cond.instanceMethod y ∈ lw_g) (hse : Cond.selects y.cls y y ∈ lw_g) (hrv : ∀ H, J σ H → ∃ cell : Cell, H[a]? = some cell ∧ cell.vm.isStatics = false ∧ s.vm.findClass y.cls = some cell.cls)
    (hnp : As.length = np) (hcat : (rest.map fun v => v.category).sum ≤ 8) (hd : decode cc pc = .ok (.invokevirtual ix, 3)) (hf : k ≤ R.cells ∧ n ≤ R.slots)
    (h : ∀ σ', Rg σ' → Sim p l e R s m args below meth c nL A Q k n (J σ') (pc + 3) L rest (K σ')) : Sim p l e R s m args below meth c nL A Q k n (J σ) pc L st0 (kc.bind K) := by
  subst hst0
  exact s_callV C hK np hM hA hq hin hse hrv hnp hcat hd hf (fun z v _ => s_poU (fun hs => h z hs))
theorem s_callS_P (C : Cx p s m args meth c cc nL own) {G : Gt} (hK : KA G s) {y : MethodName} {bytes : ByteArray} {maxL ix : Nat} {ret : Option FieldType} {rm : Room} {As rest st0 : List Value} {kc : Option Int} {K : Int → Option α} (np : Nat)
    (hM : MetS l y bytes maxL ret rm G As I (poP I) (fun _ => False) 0 0 kc) (hst0 : As.reverse ++ rest = st0) (hq : CallB R s args own ix y bytes maxL ret (.code y bytes maxL ret :: lw_g) rm 0 0 np) (hsm : Cond.static y ∈ lw_g)
    (hnp : As.length = np) (hcat : (rest.map fun v => v.category).sum ≤ 8) (hd : decode cc pc = .ok (.invokestatic ix, 3)) (hf : k ≤ R.cells ∧ n ≤ R.slots)
    (h : ∀ r, inR r → Sim p l e R s m args below meth c nL A Q k n I (pc + 3) L (vI r :: rest) (K r)) : Sim p l e R s m args below meth c nL A Q k n I pc L st0 (kc.bind K) := by
  subst hst0
  exact s_callS C hK np hM (fun _ h => h.elim) hq hsm hnp hcat hd hf (fun r v _ => s_poP (fun hr => h r hr))
theorem s_callS_U (C : Cx p s m args meth c cc nL own) {G : Gt} (hK : KA G s) {y : MethodName} {bytes : ByteArray} {maxL ix : Nat} {ret : Option FieldType} {rm : Room} {As rest st0 : List Value} {J : Blk → Heap → Prop} {σ : Blk} {A1 : Nat → Prop} {kc : Option Blk} {K : Blk → Option α} (np : Nat)
    (hM : MetS l y bytes maxL ret rm G As (J σ) (poU J) A1 0 0 kc) (hA : ∀ q, A1 q → A q) (hst0 : As.reverse ++ rest = st0) (hq : CallB R s args own ix y bytes maxL ret (.code y bytes maxL ret :: lw_g) rm 0 0 np) (hsm : Cond.static y ∈ lw_g)
    (hnp : As.length = np) (hcat : (rest.map fun v => v.category).sum ≤ 8) (hd : decode cc pc = .ok (.invokestatic ix, 3)) (hf : k ≤ R.cells ∧ n ≤ R.slots)
    (h : ∀ σ', Rg σ' → Sim p l e R s m args below meth c nL A Q k n (J σ') (pc + 3) L rest (K σ')) : Sim p l e R s m args below meth c nL A Q k n (J σ) pc L st0 (kc.bind K) := by
  subst hst0
  exact s_callS C hK np hM hA hq hsm hnp hcat hd hf (fun z v _ => s_poU (fun hs => h z hs))
theorem s_mmin (C : Cx p s m args meth c cc nL own) {a b : Int} {ix : Nat} (ha : inR a) (hb : inR b) (hl : Cond.methodLink own ix Lib.Math.min.name ∈ lw_g) (hst : Cond.static Lib.Math.min.name ∈ lw_g) (hini : Cond.initialized "java/lang/Math" ∈ lw_g) (hco : Cond.code Lib.Math.min.name Lib.Math.min.code 2 (some .int) ∈ lw_g) (hfr : 1 ≤ R.frames) (hlo : (st.map fun v => v.category).sum + 13 ≤ R.locals) (hf : k ≤ R.cells ∧ n ≤ R.slots) (hd : decode cc pc = .ok (.invokestatic ix, 3)) (h : Sim p l e R s m args below meth c nL A Q k n I (pc + 3) L (vI (imin a b) :: st) kk) : Sim p l e R s m args below meth c nL A Q k n I pc L (vI b :: vI a :: st) kk := fun x hx H locs ls hI hS hL => va_mmin C.1 C.2.1 (C.2.2.1.trans hL.1.symm) C.2.2.2.1 (C.2.2.2.2.1 _ hl) (C.2.2.2.2.1 _ hst) (C.2.2.2.2.1 _ hini) (C.2.2.2.2.1 _ hco) hfr hlo hf.1 hf.2 hd (by
    have e1 : (if Int32.ofInt b < Int32.ofInt a then Int32.ofInt b else Int32.ofInt a) = Int32.ofInt (imin a b) := by
      unfold imin
      by_cases q : b < a
      · rw [if_pos q, if_pos ((i32_lt hb ha).mpr q)]
      · rw [if_neg q, if_neg (fun z => q ((i32_lt hb ha).mp z))]
    rw [e1]
    exact h x hx H locs ls hI hS hL)
theorem s_mmax (C : Cx p s m args meth c cc nL own) {a b : Int} {ix : Nat} (ha : inR a) (hb : inR b) (hl : Cond.methodLink own ix Lib.Math.max.name ∈ lw_g) (hst : Cond.static Lib.Math.max.name ∈ lw_g) (hini : Cond.initialized "java/lang/Math" ∈ lw_g) (hco : Cond.code Lib.Math.max.name Lib.Math.max.code 2 (some .int) ∈ lw_g) (hfr : 1 ≤ R.frames) (hlo : (st.map fun v => v.category).sum + 13 ≤ R.locals) (hf : k ≤ R.cells ∧ n ≤ R.slots) (hd : decode cc pc = .ok (.invokestatic ix, 3)) (h : Sim p l e R s m args below meth c nL A Q k n I (pc + 3) L (vI (imax a b) :: st) kk) : Sim p l e R s m args below meth c nL A Q k n I pc L (vI b :: vI a :: st) kk := fun x hx H locs ls hI hS hL => va_mmax C.1 C.2.1 (C.2.2.1.trans hL.1.symm) C.2.2.2.1 (C.2.2.2.2.1 _ hl) (C.2.2.2.2.1 _ hst) (C.2.2.2.2.1 _ hini) (C.2.2.2.2.1 _ hco) hfr hlo hf.1 hf.2 hd (by
    have e1 : (if Int32.ofInt a < Int32.ofInt b then Int32.ofInt b else Int32.ofInt a) = Int32.ofInt (imax a b) := by
      unfold imax
      by_cases q : a < b
      · rw [if_pos q, if_pos ((i32_lt ha hb).mpr q)]
      · rw [if_neg q, if_neg (fun z => q ((i32_lt ha hb).mp z))]
    rw [e1]
    exact h x hx H locs ls hI hS hL)
theorem s_tabIn (C : Cx p s m args meth c cc nL own) {dflt lo hi : Int} {offs : Array Int} {len : Nat} {a off : Int} {tgt : Nat} (z : Int) (hd : decode cc pc = .ok (.tableswitch dflt lo hi offs, len)) (ha : inR a) (hz : a = z) (h1 : ¬ z < lo) (h2 : ¬ hi < z) (ho : offs[(z - lo).toNat]? = some off) (ht : (pc : Int) + off = (tgt : Int)) (h : Sim p l e R s m args below meth c nL A Q k n I tgt L st kk) : Sim p l e R s m args below meth c nL A Q k n I pc L (vI a :: st) kk := fun x hx H locs ls hI hS hL => by
  subst hz
  exact lv_tableIn C.1 C.2.1 hd (by rw [i32_of ha]; exact h1) (by rw [i32_of ha]; exact h2) (by rw [i32_of ha]; exact ho) ht (h x hx H locs ls hI hS hL)
theorem s_tabOut (C : Cx p s m args meth c cc nL own) {dflt lo hi : Int} {offs : Array Int} {len : Nat} {a : Int} {tgt : Nat} (hd : decode cc pc = .ok (.tableswitch dflt lo hi offs, len)) (ha : inR a) (hz : a < lo ∨ hi < a) (ht : (pc : Int) + dflt = (tgt : Int)) (h : Sim p l e R s m args below meth c nL A Q k n I tgt L st kk) : Sim p l e R s m args below meth c nL A Q k n I pc L (vI a :: st) kk := fun x hx H locs ls hI hS hL =>
  lv_tableOut C.1 C.2.1 hd (by rw [i32_of ha]; exact hz) ht (h x hx H locs ls hI hS hL)
theorem s_lcmp (C : Cx p s m args meth c cc nL own) {a b : Int64} (hd : decode cc pc = .ok (.lcmp, 1)) (h : Sim p l e R s m args below meth c nL A Q k n I (pc + 1) L (vI (lcmp a b) :: st) kk) : Sim p l e R s m args below meth c nL A Q k n I pc L (.long b :: .long a :: st) kk := fun x hx H locs ls hI hS hL => W.lcmp C.1 C.2.1 hd (by rw [← i32_to (lg_cmp a b)]; exact h x hx H locs ls hI hS hL)
theorem s_ck0 {a : Int} {K : Int → Option α} (h : ∀ v, inR v → Sim p l e R s m args below meth c nL A Q k n I pc L (vI v :: st) (K v)) : Sim p l e R s m args below meth c nL A Q k n I pc L (vI a :: st) ((ck a).bind K) := s_ck (h a)
theorem s_ck1 {w0 : Value} {a : Int} {K : Int → Option α} (h : ∀ v, inR v → Sim p l e R s m args below meth c nL A Q k n I pc L (w0 :: vI v :: st) (K v)) : Sim p l e R s m args below meth c nL A Q k n I pc L (w0 :: vI a :: st) ((ck a).bind K) := s_ck (h a)
theorem s_ck2 {w0 w1 : Value} {a : Int} {K : Int → Option α} (h : ∀ v, inR v → Sim p l e R s m args below meth c nL A Q k n I pc L (w0 :: w1 :: vI v :: st) (K v)) : Sim p l e R s m args below meth c nL A Q k n I pc L (w0 :: w1 :: vI a :: st) ((ck a).bind K) := s_ck (h a)
theorem s_ck3 {w0 w1 w2 : Value} {a : Int} {K : Int → Option α} (h : ∀ v, inR v → Sim p l e R s m args below meth c nL A Q k n I pc L (w0 :: w1 :: w2 :: vI v :: st) (K v)) : Sim p l e R s m args below meth c nL A Q k n I pc L (w0 :: w1 :: w2 :: vI a :: st) ((ck a).bind K) := s_ck (h a)
theorem s_ck4 {w0 w1 w2 w3 : Value} {a : Int} {K : Int → Option α} (h : ∀ v, inR v → Sim p l e R s m args below meth c nL A Q k n I pc L (w0 :: w1 :: w2 :: w3 :: vI v :: st) (K v)) : Sim p l e R s m args below meth c nL A Q k n I pc L (w0 :: w1 :: w2 :: w3 :: vI a :: st) ((ck a).bind K) := s_ck (h a)
theorem s_ck5 {w0 w1 w2 w3 w4 : Value} {a : Int} {K : Int → Option α} (h : ∀ v, inR v → Sim p l e R s m args below meth c nL A Q k n I pc L (w0 :: w1 :: w2 :: w3 :: w4 :: vI v :: st) (K v)) : Sim p l e R s m args below meth c nL A Q k n I pc L (w0 :: w1 :: w2 :: w3 :: w4 :: vI a :: st) ((ck a).bind K) := s_ck (h a)
theorem s_ck6 {w0 w1 w2 w3 w4 w5 : Value} {a : Int} {K : Int → Option α} (h : ∀ v, inR v → Sim p l e R s m args below meth c nL A Q k n I pc L (w0 :: w1 :: w2 :: w3 :: w4 :: w5 :: vI v :: st) (K v)) : Sim p l e R s m args below meth c nL A Q k n I pc L (w0 :: w1 :: w2 :: w3 :: w4 :: w5 :: vI a :: st) ((ck a).bind K) := s_ck (h a)
end CALLS2
