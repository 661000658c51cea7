/-! THE LAW'S OWN ROWS: the object at x, the model at x + 205, later Books from x + 215 on; the script at bs -/
def VL (G : Gt) (x : Nat) (σ : Blk) (B : Nat → Blk) (nb : Nat) (τ : Blk) (H : Heap) : Prop := WX G x (x + 215) σ B nb H ∧ Bk G (layModel G (x + 205)) 10 (x + 205) τ H
theorem VL.wv {G : Gt} {x : Nat} {τ : Blk} : WV G x (x + 215) (fun σ B nb => VL G x σ B nb τ) := by
  refine ⟨fun _ _ _ _ h => h.1, fun σ B nb σ' B' nb' H H1 h hW hs ho => ⟨hW, fun i hi => (h.2 i hi).kept (ho _ ?_ ?_)⟩⟩
  · obtain ⟨-, -, h3, h4, h5⟩ := h.1
    show x + 205 + i < _
    omega
  · unfold Rx
    show ¬ ((x ≤ x + 205 + i ∧ x + 205 + i < x + 205) ∨ x + 215 ≤ x + 205 + i)
    omega
theorem VL.wd {G : Gt} {x nb : Nat} {σ : Blk} {B : Nat → Blk} : Wd G (layModel G (x + 205)) 10 (x + 205) (fun τ => VL G x σ B nb τ) := by
  refine ⟨fun _ _ h => h.2, fun τ τ' H H1 h hB hz ho => ⟨?_, hB⟩⟩
  obtain ⟨h1, h2, h3, h4, h5⟩ := h.1
  refine ⟨fun i hi => (h1 i hi).kept (ho _ (by show x + i < _ ∨ _ ≤ x + i; omega)), fun k hk i hi => (h2 k hk i hi).kept (ho _ ?_), by omega, h4, h5⟩
  show ad x (x + 215) k + i < x + 205 ∨ x + 205 + 10 ≤ ad x (x + 215) k + i
  unfold ad
  split
  · omega
  · split <;> omega
def ish (xs : Nat → Int32) (L : Nat) (j : Int) : Option Int := if 0 ≤ j ∧ j < (L : Int) then some (xs j.toNat).toInt else none
def lshl (x : Int64) (a : Int) : Int64 := x <<< ((Int32.ofInt a).toInt64 &&& 63)
/-- what the end of the law is: with 1 its own end, with 0 nothing is said -/
def QL (below : List Frame) (bs : Nat) (s : State) : Int → State → Prop := fun z t => z = 1 → lw_Z below #[Value.ref bs] s t
section LAWR
variable {p : Program} {l : Launch} {e : Env} {s : State} {m : MethodId} {below : List Frame} {meth : Method} {c : Code} {bs Ls : Nat} {xs : Nat → Int32}
variable {R : Room} {args : Array Value} {cc : ByteArray} {nL : Nat} {own : String}
variable {α β : Type} {A : Nat → Prop} {Q : α → State → Prop} {k n : Nat} {I : Heap → Prop} {pc : Nat} {L L' : List (Nat × Value)} {st : List Value} {kk : Option α}
theorem l_slen (C : Cx p s m args meth c cc nL own) (hX : va_X bs Ls xs s s.heap) (hbl : bs < s.heap.size) (hbA : ¬ A bs) (hd : decode cc pc = .ok (.arraylength, 1)) (h : Sim p l e R s m args below meth c nL A Q k n I (pc + 1) L (vI (Ls : Int) :: st) kk) : Sim p l e R s m args below meth c nL A Q k n I pc L (.ref bs :: st) kk := fun x hx H locs ls hI hS hL =>
  va_slen C.1 C.2.1 hX hbl hbA hS hd (by rw [← Int32.ofInt_eq_ofNat]; exact h x hx H locs ls hI hS hL)
theorem l_sld (C : Cx p s m args meth c cc nL own) (hX : va_X bs Ls xs s s.heap) (hbl : bs < s.heap.size) (hbA : ¬ A bs) (hLs : Ls ≤ 2048) {j : Int} {K : Int → Option α} (hd : decode cc pc = .ok (.iaload, 1)) (h : ∀ v, inR v → Sim p l e R s m args below meth c nL A Q k n I (pc + 1) L (vI v :: st) (K v)) : Sim p l e R s m args below meth c nL A Q k n I pc L (vI j :: .ref bs :: st) ((ish xs Ls j).bind K) := s_bind fun y hy x hx H locs ls hI hS hL => by
  unfold ish at hy
  split at hy
  · rename_i hj
    cases hy
    have hjr : inR j := ⟨by omega, by omega⟩
    refine va_sld C.1 C.2.1 hX hbl hbA hS (i32_vin hj.1 hj.2 (by omega)) hd ?_
    rw [i32_nat hjr]
    have h9 := h _ (i32_in (xs j.toNat)) x hx H locs ls hI hS hL
    rw [vI, i32_to] at h9
    exact h9
  · cases hy
theorem l_lshl (C : Cx p s m args meth c cc nL own) {a : Int64} {b : Int} (hd : decode cc pc = .ok (.lshl, 1)) (h : Sim p l e R s m args below meth c nL A Q k n I (pc + 1) L (.long (lshl a b) :: st) kk) : Sim p l e R s m args below meth c nL A Q k n I pc L (vI b :: .long a :: st) kk := fun x hx H locs ls hI hS hL => lv_lshl C.1 C.2.1 hd rfl (h x hx H locs ls hI hS hL)
theorem l_lor (C : Cx p s m args meth c cc nL own) {a b : Int64} (hd : decode cc pc = .ok (.lor, 1)) (h : Sim p l e R s m args below meth c nL A Q k n I (pc + 1) L (.long (a ||| b) :: st) kk) : Sim p l e R s m args below meth c nL A Q k n I pc L (.long b :: .long a :: st) kk := fun x hx H locs ls hI hS hL => lv_lor C.1 C.2.1 hd (h x hx H locs ls hI hS hL)
theorem l_ret0 {pc : Nat} {st : List Value} : Sim p l e R s m args below meth c nL A (QL below bs s) k n I pc L st (some 0) := fun x hx H locs ls hI hS hL T hT X => by
  cases hx
  exact ⟨_, Steps.refl _, fun h => by cases h⟩
theorem l_ret1 (C : Cx p s m #[Value.ref bs] meth c code nL own) (hr : meth.sig.returnType = ret) (hAs : ∀ q, A q → s.heap.size ≤ q) (hk : k ≤ 600000) (hn : n ≤ 7302250) {pc : Nat} (hd : decode code pc = .ok (.ireturn, 1)) : Sim p l e room_1 s m #[Value.ref bs] below meth c nL A (QL below bs s) k n I pc L [vI 1] (some 1) := fun x hx H locs ls hI hS hL => by
  cases hx
  refine va_forget (fun q hq => hAs _ (hS.2.2 q hq)) (W.widen hk hn ?_)
  intro T hT X
  obtain ⟨t, h1, h2⟩ := lw_ret (l := l) (e := e) (c := c) (H := H) (ls := ls) C.1 C.2.1 hr C.2.2.2.2.2 hd T hT X
  exact ⟨t, h1, fun _ => h2⟩
/-- a round's room: f falls by one, a round's cells go -/
theorem l_lp {V : Blk → (Nat → Blk) → Nat → Blk → Heap → Prop} {F : Nat → Int → Blk → (Nat → Blk) → Nat → Blk → Option α} (Km Nm Mk Mn pcB : Nat) (LB : Int → List (Nat × Value)) (h0 : ∀ y σ B nb τ, F 0 y σ B nb τ = none)
    (hs : ∀ N : Nat, (∀ (y : Int) (σ : Blk) (B : Nat → Blk) (nb : Nat) (τ : Blk), inR y → Rg σ → RgB B → 2 ≤ nb → Rg τ → Sim p l e R s m args below meth c nL A Q (Km - N * Mk) (Nm - N * Mn) (V σ B nb τ) pcB (LB y) [] (F N y σ B nb τ)) → N + 1 ≤ 600 → ∀ (y : Int) (σ : Blk) (B : Nat → Blk) (nb : Nat) (τ : Blk), inR y → Rg σ → RgB B → 2 ≤ nb → Rg τ → Sim p l e R s m args below meth c nL A Q (Km - (N + 1) * Mk) (Nm - (N + 1) * Mn) (V σ B nb τ) pcB (LB y) [] (F (N + 1) y σ B nb τ)) (N : Nat) (hN : N ≤ 600) : ∀ (y : Int) (σ : Blk) (B : Nat → Blk) (nb : Nat) (τ : Blk), inR y → Rg σ → RgB B → 2 ≤ nb → Rg τ → Sim p l e R s m args below meth c nL A Q (Km - N * Mk) (Nm - N * Mn) (V σ B nb τ) pcB (LB y) [] (F N y σ B nb τ) := by
  induction N with
  | zero =>
    intros
    rw [h0]
    exact s_none
  | succ N ih => exact hs N (ih (by omega)) hN
theorem l_jp {V : Blk → (Nat → Blk) → Nat → Blk → Heap → Prop} {K : Blk → (Nat → Blk) → Nat → Blk → Option α} {f : (Blk → (Nat → Blk) → Nat → Blk → Option α) → Option α} (kJ nJ pcB : Nat) (LB : List (Nat × Value)) (h1 : ∀ (σ : Blk) (B : Nat → Blk) (nb : Nat) (τ : Blk), Rg σ → RgB B → 2 ≤ nb → Rg τ → Sim p l e R s m args below meth c nL A Q kJ nJ (V σ B nb τ) pcB LB [] (K σ B nb τ)) (h2 : ∀ j : Blk → (Nat → Blk) → Nat → Blk → Option α, (∀ (σ : Blk) (B : Nat → Blk) (nb : Nat) (τ : Blk), Rg σ → RgB B → 2 ≤ nb → Rg τ → Sim p l e R s m args below meth c nL A Q kJ nJ (V σ B nb τ) pcB LB [] (j σ B nb τ)) → Sim p l e R s m args below meth c nL A Q k n I pc L st (f j)) : Sim p l e R s m args below meth c nL A Q k n I pc L st (jp K f) := h2 K h1
end LAWR
