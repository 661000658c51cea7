/-! THE WALK IN STEP WITH A PICTURE: Sim .. pc L st kk says: if the picture kk comes to x, then the machine, from pc with locals L and stack st over every heap of I, comes to Q x -/
def Cx (p : Program) (s : State) (m : MethodId) (args : Array Value) (meth : Method) (c : Code) (cc : ByteArray) (nL : Nat) (own : String) : Prop :=
  p.tables.exec = Jvm.exec ∧ c.code = cc ∧ c.maxLocals = nL ∧ s.vm.findClass own = some m.cls ∧ (∀ w ∈ lw_g, w.before args s = true) ∧ meth.locks = false
section ROWS
variable {p : Program} {l : Launch} {e : Env} {R : Room} {s : State} {m : MethodId} {args : Array Value} {below : List Frame} {meth : Method} {c : Code}
variable {cc : ByteArray} {nL : Nat} {own : String}
def Sim (p : Program) (l : Launch) (e : Env) (R : Room) (s : State) (m : MethodId) (args : Array Value) (below : List Frame) (meth : Method) (c : Code) (nL : Nat) {α : Type} (A : Nat → Prop) (Q : α → State → Prop) (k n : Nat) (I : Heap → Prop) (pc : Nat) (L : List (Nat × Value)) (st : List Value) (kk : Option α) : Prop :=
  ∀ x, kk = some x → ∀ (H : Heap) (locs : List Loc) (ls : Array Slot), I H → va_S A s.heap H locs → lv_has ls nL L → W p l e R s m args below meth c H locs k n (Q x) (F0 m pc ls st)
variable {α β : Type} {A : Nat → Prop} {Q : α → State → Prop} {k n : Nat} {I : Heap → Prop} {pc : Nat} {L L' : List (Nat × Value)} {st : List Value} {kk : Option α}
theorem s_none : Sim p l e R s m args below meth c nL A Q k n I pc L st none := fun x h => by cases h
theorem s_bind {x : Option β} {K : β → Option α} (h : ∀ y, x = some y → Sim p l e R s m args below meth c nL A Q k n I pc L st (K y)) : Sim p l e R s m args below meth c nL A Q k n I pc L st (x.bind K) := fun z hz => by
  obtain ⟨y, h1, h2⟩ := Option.bind_eq_some_iff.mp hz
  exact h y h1 z h2
theorem s_ck {a : Int} {K : Int → Option α} (h : inR a → Sim p l e R s m args below meth c nL A Q k n I pc L st (K a)) : Sim p l e R s m args below meth c nL A Q k n I pc L st ((ck a).bind K) := s_bind fun y hy => by
  unfold ck at hy
  split at hy
  · rename_i hr
    cases hy
    exact h hr
  · cases hy
theorem s_ckB {a : Int} {K : Int → Option α} (h : (a = 0 ∨ a = 1) → Sim p l e R s m args below meth c nL A Q k n I pc L st (K a)) : Sim p l e R s m args below meth c nL A Q k n I pc L st ((ckB a).bind K) := s_bind fun y hy => by
  unfold ckB at hy
  split at hy
  · rename_i hr
    cases hy
    exact h hr
  · cases hy
theorem s_ite {φ : Prop} [Decidable φ] {K1 K2 : Option α} (h1 : φ → Sim p l e R s m args below meth c nL A Q k n I pc L st K1) (h2 : ¬ φ → Sim p l e R s m args below meth c nL A Q k n I pc L st K2) : Sim p l e R s m args below meth c nL A Q k n I pc L st (if φ then K1 else K2) := by
  split
  · exact h1 (by assumption)
  · exact h2 (by assumption)
theorem s_jp {γ : Type} {K : γ} {f : γ → Option α} (P : γ → Prop) (h1 : P K) (h2 : ∀ j, P j → Sim p l e R s m args below meth c nL A Q k n I pc L st (f j)) : Sim p l e R s m args below meth c nL A Q k n I pc L st (jp K f) := h2 K h1
theorem s_sub (ks : List Nat) (hl : lv_pick L ks = L') (h : Sim p l e R s m args below meth c nL A Q k n I pc L' st kk) : Sim p l e R s m args below meth c nL A Q k n I pc L st kk := fun x hx H locs ls hI hS hL => h x hx H locs ls hI hS (lv_sub hL ks hl)
theorem s_I {I' : Heap → Prop} (hI : ∀ H, I H → I' H) (h : Sim p l e R s m args below meth c nL A Q k n I' pc L st kk) : Sim p l e R s m args below meth c nL A Q k n I pc L st kk := fun x hx H locs ls hh hS hL => h x hx H locs ls (hI H hh) hS hL
theorem s_widen {k' n' : Nat} (hk : k ≤ k') (hn : n ≤ n') (h : Sim p l e R s m args below meth c nL A Q k' n' I pc L st kk) : Sim p l e R s m args below meth c nL A Q k n I pc L st kk := fun x hx H locs ls hh hS hL => W.widen hk hn (h x hx H locs ls hh hS hL)
-- locals, constants
theorem s_iload_n (C : Cx p s m args meth c cc nL own) {kf : Fin 4} {i : Nat} {a : Int} (hd : decode cc pc = .ok (.iload_n kf, 1)) (hi : (kf : Nat) = i) (q : Nat) (hl : L[q]? = some (i, vI a)) (h : Sim p l e R s m args below meth c nL A Q k n I (pc + 1) L (vI a :: st) kk) : Sim p l e R s m args below meth c nL A Q k n I pc L st kk := fun x hx H locs ls hI hS hL => lv_iload_n C.1 C.2.1 hd hi (lv_at hL q hl) (h x hx H locs ls hI hS hL)
theorem s_iload (C : Cx p s m args meth c cc nL own) {i : Nat} {a : Int} (hd : decode cc pc = .ok (.iload i, 2)) (q : Nat) (hl : L[q]? = some (i, vI a)) (h : Sim p l e R s m args below meth c nL A Q k n I (pc + 2) L (vI a :: st) kk) : Sim p l e R s m args below meth c nL A Q k n I pc L st kk := fun x hx H locs ls hI hS hL => lv_iload C.1 C.2.1 hd (lv_at hL q hl) (h x hx H locs ls hI hS hL)
theorem s_lload_n (C : Cx p s m args meth c cc nL own) {kf : Fin 4} {i : Nat} {a : Int64} (hd : decode cc pc = .ok (.lload_n kf, 1)) (hi : (kf : Nat) = i) (q : Nat) (hl : L[q]? = some (i, .long a)) (h : Sim p l e R s m args below meth c nL A Q k n I (pc + 1) L (.long a :: st) kk) : Sim p l e R s m args below meth c nL A Q k n I pc L st kk := fun x hx H locs ls hI hS hL => lv_lload_n C.1 C.2.1 hd hi (lv_at hL q hl) (h x hx H locs ls hI hS hL)
theorem s_lload (C : Cx p s m args meth c cc nL own) {i : Nat} {a : Int64} (hd : decode cc pc = .ok (.lload i, 2)) (q : Nat) (hl : L[q]? = some (i, .long a)) (h : Sim p l e R s m args below meth c nL A Q k n I (pc + 2) L (.long a :: st) kk) : Sim p l e R s m args below meth c nL A Q k n I pc L st kk := fun x hx H locs ls hI hS hL => lv_lload C.1 C.2.1 hd (lv_at hL q hl) (h x hx H locs ls hI hS hL)
theorem s_aload_n (C : Cx p s m args meth c cc nL own) {kf : Fin 4} {i : Nat} {a : Nat} (hd : decode cc pc = .ok (.aload_n kf, 1)) (hi : (kf : Nat) = i) (q : Nat) (hl : L[q]? = some (i, .ref a)) (h : Sim p l e R s m args below meth c nL A Q k n I (pc + 1) L (.ref a :: st) kk) : Sim p l e R s m args below meth c nL A Q k n I pc L st kk := fun x hx H locs ls hI hS hL => lv_aload_n C.1 C.2.1 hd hi (lv_at hL q hl) (h x hx H locs ls hI hS hL)
theorem s_istore_n (C : Cx p s m args meth c cc nL own) {kf : Fin 4} {i : Nat} {a : Int} (hd : decode cc pc = .ok (.istore_n kf, 1)) (hi : (kf : Nat) = i) (hn : i < nL) (hl : (i, vI a) :: L.filter (fun q => !(q.1 == i) && !(q.1 + 1 == i && q.2.category == 2)) = L') (h : Sim p l e R s m args below meth c nL A Q k n I (pc + 1) L' st kk) : Sim p l e R s m args below meth c nL A Q k n I pc L (vI a :: st) kk := fun x hx H locs ls hI hS hL => lv_istore_n C.1 C.2.1 hd hi hL hn hl (fun ls' hL' => h x hx H locs ls' hI hS hL')
theorem s_istore (C : Cx p s m args meth c cc nL own) {i : Nat} {a : Int} (hd : decode cc pc = .ok (.istore i, 2)) (hn : i < nL) (hl : (i, vI a) :: L.filter (fun q => !(q.1 == i) && !(q.1 + 1 == i && q.2.category == 2)) = L') (h : Sim p l e R s m args below meth c nL A Q k n I (pc + 2) L' st kk) : Sim p l e R s m args below meth c nL A Q k n I pc L (vI a :: st) kk := fun x hx H locs ls hI hS hL => lv_istore C.1 C.2.1 hd hL hn hl (fun ls' hL' => h x hx H locs ls' hI hS hL')
theorem s_lstore_n (C : Cx p s m args meth c cc nL own) {kf : Fin 4} {i : Nat} {a : Int64} (hd : decode cc pc = .ok (.lstore_n kf, 1)) (hi : (kf : Nat) = i) (hn : i + 1 < nL) (hl : (i, Value.long a) :: L.filter (fun q => !(q.1 == i) && (!(q.1 == i + 1) && !(q.1 + 1 == i && q.2.category == 2))) = L') (h : Sim p l e R s m args below meth c nL A Q k n I (pc + 1) L' st kk) : Sim p l e R s m args below meth c nL A Q k n I pc L (.long a :: st) kk := fun x hx H locs ls hI hS hL => lv_lstore_n C.1 C.2.1 hd hi hL hn hl (fun ls' hL' => h x hx H locs ls' hI hS hL')
theorem s_lstore (C : Cx p s m args meth c cc nL own) {i : Nat} {a : Int64} (hd : decode cc pc = .ok (.lstore i, 2)) (hn : i + 1 < nL) (hl : (i, Value.long a) :: L.filter (fun q => !(q.1 == i) && (!(q.1 == i + 1) && !(q.1 + 1 == i && q.2.category == 2))) = L') (h : Sim p l e R s m args below meth c nL A Q k n I (pc + 2) L' st kk) : Sim p l e R s m args below meth c nL A Q k n I pc L (.long a :: st) kk := fun x hx H locs ls hI hS hL => lv_lstore C.1 C.2.1 hd hL hn hl (fun ls' hL' => h x hx H locs ls' hI hS hL')
theorem s_astore_n (C : Cx p s m args meth c cc nL own) {kf : Fin 4} {i : Nat} {a : Nat} (hd : decode cc pc = .ok (.astore_n kf, 1)) (hi : (kf : Nat) = i) (hn : i < nL) (hl : (i, Value.ref a) :: L.filter (fun q => !(q.1 == i) && !(q.1 + 1 == i && q.2.category == 2)) = L') (h : Sim p l e R s m args below meth c nL A Q k n I (pc + 1) L' st kk) : Sim p l e R s m args below meth c nL A Q k n I pc L (.ref a :: st) kk := fun x hx H locs ls hI hS hL => lv_astore_n C.1 C.2.1 hd hi hL hn hl (fun ls' hL' => h x hx H locs ls' hI hS hL')
theorem s_iinc (C : Cx p s m args meth c cc nL own) {i : Nat} {a z : Int} (hd : decode cc pc = .ok (.iinc i z, 3)) (q : Nat) (hq : L[q]? = some (i, vI a)) (hn : i < nL) (hl : (i, vI (a + z)) :: L.filter (fun q => !(q.1 == i) && !(q.1 + 1 == i && q.2.category == 2)) = L') (h : Sim p l e R s m args below meth c nL A Q k n I (pc + 3) L' st kk) : Sim p l e R s m args below meth c nL A Q k n I pc L st kk := fun x hx H locs ls hI hS hL => lv_iinc (v := Int32.ofInt (a + z)) C.1 C.2.1 hd hL hq (Int32.ofInt_add a z).symm hn hl (fun ls' hL' => h x hx H locs ls' hI hS hL')
theorem s_iconst (C : Cx p s m args meth c cc nL own) {z : Int} (hd : decode cc pc = .ok (.iconst z, 1)) (h : Sim p l e R s m args below meth c nL A Q k n I (pc + 1) L (vI z :: st) kk) : Sim p l e R s m args below meth c nL A Q k n I pc L st kk := fun x hx H locs ls hI hS hL => lv_iconst C.1 C.2.1 hd rfl (h x hx H locs ls hI hS hL)
theorem s_bipush (C : Cx p s m args meth c cc nL own) {z : Int} (hd : decode cc pc = .ok (.bipush z, 2)) (hv : (Int8.ofInt z).toInt32 = Int32.ofInt z) (h : Sim p l e R s m args below meth c nL A Q k n I (pc + 2) L (vI z :: st) kk) : Sim p l e R s m args below meth c nL A Q k n I pc L st kk := fun x hx H locs ls hI hS hL => lv_bipush C.1 C.2.1 hd hv (h x hx H locs ls hI hS hL)
theorem s_sipush (C : Cx p s m args meth c cc nL own) {z : Int} (hd : decode cc pc = .ok (.sipush z, 3)) (hv : (Int16.ofInt z).toInt32 = Int32.ofInt z) (h : Sim p l e R s m args below meth c nL A Q k n I (pc + 3) L (vI z :: st) kk) : Sim p l e R s m args below meth c nL A Q k n I pc L st kk := fun x hx H locs ls hI hS hL => lv_sipush C.1 C.2.1 hd hv (h x hx H locs ls hI hS hL)
theorem s_lconst (C : Cx p s m args meth c cc nL own) {z : Fin 2} {v : Int64} (hd : decode cc pc = .ok (.lconst z, 1)) (hv : Int64.ofNat (z : Nat) = v) (h : Sim p l e R s m args below meth c nL A Q k n I (pc + 1) L (.long v :: st) kk) : Sim p l e R s m args below meth c nL A Q k n I pc L st kk := fun x hx H locs ls hI hS hL => lv_lconst C.1 C.2.1 hd hv (h x hx H locs ls hI hS hL)
theorem s_ldc2 (C : Cx p s m args meth c cc nL own) {ix : Nat} {v : Int64} (hw : Cond.constantLong own ix v ∈ lw_g) (hd : decode cc pc = .ok (.ldc2_w ix, 3)) (h : Sim p l e R s m args below meth c nL A Q k n I (pc + 3) L (.long v :: st) kk) : Sim p l e R s m args below meth c nL A Q k n I pc L st kk := fun x hx H locs ls hI hS hL => lv_ldc2 C.1 C.2.1 C.2.2.2.1 (C.2.2.2.2.1 _ hw) hd (h x hx H locs ls hI hS hL)
theorem s_dup (C : Cx p s m args meth c cc nL own) {v : Value} (hd : decode cc pc = .ok (.dup, 1)) (hv : v.category = 1) (h : Sim p l e R s m args below meth c nL A Q k n I (pc + 1) L (v :: v :: st) kk) : Sim p l e R s m args below meth c nL A Q k n I pc L (v :: st) kk := fun x hx H locs ls hI hS hL => lv_dup C.1 C.2.1 hd hv (h x hx H locs ls hI hS hL)
theorem s_dup2 (C : Cx p s m args meth c cc nL own) {v w : Value} (hd : decode cc pc = .ok (.dup2, 1)) (hv : v.category = 1) (hw : w.category = 1) (h : Sim p l e R s m args below meth c nL A Q k n I (pc + 1) L (v :: w :: v :: w :: st) kk) : Sim p l e R s m args below meth c nL A Q k n I pc L (v :: w :: st) kk := fun x hx H locs ls hI hS hL => lv_dup2_11 C.1 C.2.1 hd hv hw (h x hx H locs ls hI hS hL)
theorem s_goto (C : Cx p s m args meth c cc nL own) {off : Int} {tgt : Nat} (hd : decode cc pc = .ok (.goto off, 3)) (ht : (pc : Int) + off = (tgt : Int)) (h : Sim p l e R s m args below meth c nL A Q k n I tgt L st kk) : Sim p l e R s m args below meth c nL A Q k n I pc L st kk := fun x hx H locs ls hI hS hL => lv_goto C.1 C.2.1 hd ht (h x hx H locs ls hI hS hL)
-- arithmetic
theorem s_iadd (C : Cx p s m args meth c cc nL own) {a b : Int} (hd : decode cc pc = .ok (.iadd, 1)) (h : Sim p l e R s m args below meth c nL A Q k n I (pc + 1) L (vI (a + b) :: st) kk) : Sim p l e R s m args below meth c nL A Q k n I pc L (vI b :: vI a :: st) kk := fun x hx H locs ls hI hS hL => lv_iadd C.1 C.2.1 hd (by rw [← Int32.ofInt_add]; exact h x hx H locs ls hI hS hL)
theorem s_isub (C : Cx p s m args meth c cc nL own) {a b : Int} (hd : decode cc pc = .ok (.isub, 1)) (h : Sim p l e R s m args below meth c nL A Q k n I (pc + 1) L (vI (a - b) :: st) kk) : Sim p l e R s m args below meth c nL A Q k n I pc L (vI b :: vI a :: st) kk := fun x hx H locs ls hI hS hL => lv_isub C.1 C.2.1 hd (by rw [← Int32.ofInt_sub]; exact h x hx H locs ls hI hS hL)
theorem s_imul (C : Cx p s m args meth c cc nL own) {a b : Int} (hd : decode cc pc = .ok (.imul, 1)) (h : Sim p l e R s m args below meth c nL A Q k n I (pc + 1) L (vI (a * b) :: st) kk) : Sim p l e R s m args below meth c nL A Q k n I pc L (vI b :: vI a :: st) kk := fun x hx H locs ls hI hS hL => lv_imul C.1 C.2.1 hd (by rw [← Int32.ofInt_mul]; exact h x hx H locs ls hI hS hL)
theorem i32_div {a d : Int} (ha : inR a) (h0 : 0 ≤ a) (hd : inR d) (hp : 0 < d) : Int32.ofInt a / Int32.ofInt d = Int32.ofInt (a / d) := by
  rw [← Int32.toInt_inj, Int32.toInt_div, i32_of ha, i32_of hd, Int.tdiv_eq_ediv_of_nonneg h0]
  have h1 : 0 ≤ a / d := Int.ediv_nonneg h0 (Int.le_of_lt hp)
  have h2 : a / d ≤ a := Int.ediv_le_self d h0
  rw [i32_of ⟨by omega, by omega⟩]
  rw [Int.bmod_eq_of_le (by omega) (by omega)]
theorem dv_in {a d : Int} (ha : inR a) (h0 : 0 ≤ a) (hp : 0 < d) : inR (a / d) := by
  have h1 : 0 ≤ a / d := Int.ediv_nonneg h0 (Int.le_of_lt hp)
  have h2 : a / d ≤ a := Int.ediv_le_self d h0
  exact ⟨by omega, by omega⟩
theorem rm_in {a d : Int} (hd : inR d) (hp : 0 < d) : inR (a % d) := by
  have h1 : 0 ≤ a % d := Int.emod_nonneg a (by omega)
  have h2 : a % d < d := Int.emod_lt_of_pos a hp
  exact ⟨by omega, by omega⟩
theorem s_idiv (C : Cx p s m args meth c cc nL own) {a d : Int} {K : Int → Option α} (hd : decode cc pc = .ok (.idiv, 1)) (ha : inR a) (hdr : inR d) (hp : 0 < d) (h : ∀ v, inR v → Sim p l e R s m args below meth c nL A Q k n I (pc + 1) L (vI v :: st) (K v)) : Sim p l e R s m args below meth c nL A Q k n I pc L (vI d :: vI a :: st) ((dv a d).bind K) := s_bind fun y hy x hx H locs ls hI hS hL => by
  unfold dv at hy
  split at hy
  · rename_i h0
    cases hy
    refine lv_idiv C.1 C.2.1 hd (fun z => ?_) ?_
    · have := (i32_eq hdr (inR_c 0 rfl)).mp z
      omega
    · rw [i32_div ha h0 hdr hp]
      exact h _ (dv_in ha h0 hp) x hx H locs ls hI hS hL
  · cases hy
end ROWS
