/-! ROWS for the law's tables: longs in an array, a remainder by a number that is computed, constants *)  -/
def lshl (x : Int64) (a : Int) : Int64 := x <<< ((Int32.ofInt a).toInt64 &&& 63)
def lshr (x : Int64) (a : Int) : Int64 := x >>> ((Int32.ofInt a).toInt64 &&& 63)
def ldL (σ : Blk) (c n : Nat) (i : Int) : Option Int64 := if 0 ≤ i ∧ i < (n : Int) then some (mkL (σ c (2 * i.toNat)) (σ c (2 * i.toNat + 1))) else none
def swL (σ : Blk) (c n : Nat) (i : Int) (v : Int64) : Option Blk := if 0 ≤ i ∧ i < (n : Int) then some (up2 (up2 σ c (2 * i.toNat) (loL v)) c (2 * i.toNat + 1) (hiL v)) else none
/-- cell i is an array of n longs -/
def isLg (G : Gt) (lay : Lay) (i n : Nat) : Prop := n ≤ 2147483647 ∧ ∀ d, lay i d = la G n d
theorem l_Tab_6 {G : Gt} {b : Nat} : isLg G (layTab G b) 6 12 := ⟨by decide, fun _ => rfl⟩
theorem mkL_of (v : Int64) : mkL (loL v) (hiL v) = v := by
  unfold mkL loL hiL
  rw [show v.toInt / 4294967296 * 4294967296 + (v.toInt % 4294967296 - 2147483648) + 2147483648 = v.toInt by omega, Int64.ofInt_toInt]
theorem loL_in (v : Int64) : inR (loL v) := by
  unfold loL
  exact ⟨by omega, by omega⟩
theorem hiL_in (v : Int64) : inR (hiL v) := by
  have h1 := Int64.le_toInt v
  have h2 := Int64.toInt_lt v
  unfold hiL
  exact ⟨by omega, by omega⟩
section TABROWS
variable {p : Program} {l : Launch} {e : Env} {R : Room} {s : State} {m : MethodId} {args : Array Value} {below : List Frame} {meth : Method} {c : Code}
variable {cc : ByteArray} {nL : Nat} {own : String}
variable {α β : Type} {A : Nat → Prop} {Q : α → State → Prop} {k n : Nat} {I : Heap → Prop} {pc : Nat} {L L' : List (Nat × Value)} {st : List Value} {kk : Option α}
theorem s_lshl (C : Cx p s m args meth c cc nL own) {a : Int64} {b : Int} (hd : decode cc pc = .ok (.lshl, 1)) (h : Sim p l e R s m args below meth c nL A Q k n I (pc + 1) L (.long (lshl a b) :: st) kk) : Sim p l e R s m args below meth c nL A Q k n I pc L (vI b :: .long a :: st) kk := fun x hx H locs ls hI hS hL => lv_lshl C.1 C.2.1 hd rfl (h x hx H locs ls hI hS hL)
theorem s_lshr (C : Cx p s m args meth c cc nL own) {a : Int64} {b : Int} (hd : decode cc pc = .ok (.lshr, 1)) (h : Sim p l e R s m args below meth c nL A Q k n I (pc + 1) L (.long (lshr a b) :: st) kk) : Sim p l e R s m args below meth c nL A Q k n I pc L (vI b :: .long a :: st) kk := fun x hx H locs ls hI hS hL => lv_lshr C.1 C.2.1 hd rfl (h x hx H locs ls hI hS hL)
theorem s_lor (C : Cx p s m args meth c cc nL own) {a b : Int64} (hd : decode cc pc = .ok (.lor, 1)) (h : Sim p l e R s m args below meth c nL A Q k n I (pc + 1) L (.long (a ||| b) :: st) kk) : Sim p l e R s m args below meth c nL A Q k n I pc L (.long b :: .long a :: st) kk := fun x hx H locs ls hI hS hL => lv_lor C.1 C.2.1 hd (h x hx H locs ls hI hS hL)
theorem s_pop (C : Cx p s m args meth c cc nL own) {v : Value} (hv : v.category = 1) (hd : decode cc pc = .ok (.pop, 1)) (h : Sim p l e R s m args below meth c nL A Q k n I (pc + 1) L st kk) : Sim p l e R s m args below meth c nL A Q k n I pc L (v :: st) kk := fun x hx H locs ls hI hS hL => lv_pop C.1 C.2.1 hd hv (h x hx H locs ls hI hS hL)
theorem s_dup_x2 (C : Cx p s m args meth c cc nL own) {u v w : Value} (hd : decode cc pc = .ok (.dup_x2, 1)) (hu : u.category = 1) (hv : v.category = 1) (hw : w.category = 1) (h : Sim p l e R s m args below meth c nL A Q k n I (pc + 1) L (u :: v :: w :: u :: st) kk) : Sim p l e R s m args below meth c nL A Q k n I pc L (u :: v :: w :: st) kk := fun x hx H locs ls hI hS hL => lv_dup_x2 C.1 C.2.1 hd hu hv hw (h x hx H locs ls hI hS hL)
theorem s_ldc (C : Cx p s m args meth c cc nL own) {ix : Nat} {v : Int32} {a : Int} (hw : Cond.constant own ix v ∈ lw_g) (hv : v = Int32.ofInt a) (hd : decode cc pc = .ok (.ldc ix, 2)) (h : Sim p l e R s m args below meth c nL A Q k n I (pc + 2) L (vI a :: st) kk) : Sim p l e R s m args below meth c nL A Q k n I pc L st kk := fun x hx H locs ls hI hS hL => by
  subst hv
  exact lv_ldc C.1 C.2.1 C.2.2.2.1 (C.2.2.2.2.1 _ hw) hd (h x hx H locs ls hI hS hL)
theorem s_iremV (C : Cx p s m args meth c cc nL own) {a d : Int} {K : Int → Option α} (hd : decode cc pc = .ok (.irem, 1)) (ha : inR a) (hdr : inR d) (h : ∀ v, inR v → Sim p l e R s m args below meth c nL A Q k n I (pc + 1) L (vI v :: st) (K v)) : Sim p l e R s m args below meth c nL A Q k n I pc L (vI d :: vI a :: st) ((fm a d).bind K) := s_bind fun y hy => by
  unfold fm at hy
  split at hy
  · rename_i h0
    cases hy
    have h1 := s_irem (K := K) C hd ha hdr h0.2 h
    unfold rm_ at h1
    rw [if_pos h0.1] at h1
    exact h1
  · cases hy
theorem s_laload (C : Cx p s m args meth c cc nL own) {G : Gt} (hK : KK G s) {lay : Lay} {N b i nA : Nat} {σ : Blk} {j : Int} {K : Int64 → Option α} (hI : ∀ H, I H → Bk G lay N b σ H) (hi : i < N) (ha : isLg G lay i nA) (hd : decode cc pc = .ok (.laload, 1)) (h : ∀ v, Sim p l e R s m args below meth c nL A Q k n I (pc + 1) L (.long v :: st) (K v)) : Sim p l e R s m args below meth c nL A Q k n I pc L (vI j :: .ref (b + i) :: st) ((ldL σ i nA j).bind K) := s_bind fun y hy x hx H locs ls hH hS hL => by
  unfold ldL at hy
  split at hy
  · rename_i hj
    cases hy
    have h0 := hI H hH i hi
    rw [ha.2 (σ i)] at h0
    refine va_lald (D := G.1) (cl := vwCl) (ws := [(b + i, la G nA (σ i))]) C.1 C.2.1 hK (fun q z hz => by
      match q, hz with
      | 0, hz => cases hz; exact h0
      | q + 1, hz => simp at hz) 0 3 rfl rfl (i32_vin hj.1 hj.2 ha.1) hd ?_
    have hn1 := ha.1
    rw [i32_nat ⟨by omega, by omega⟩]
    exact h _ x hx H locs ls hH hS hL
  · cases hy
theorem s_lastore (C : Cx p s m args meth c cc nL own) {G : Gt} (hK : KK G s) {lay : Lay} {N b i nA : Nat} {σ : Blk} {j : Int} {a : Int64} {K : Blk → Option α} {J : Blk → Heap → Prop} (hJ : Wd G lay N b J) (hA : ∀ q, Ab b N q → A q) (hσ : Rg σ) (hi : i < N) (ha : isLg G lay i nA) (hd : decode cc pc = .ok (.lastore, 1)) (h : ∀ σ', Rg σ' → Sim p l e R s m args below meth c nL A Q k n (J σ') (pc + 1) L st (K σ')) : Sim p l e R s m args below meth c nL A Q k n (J σ) pc L (.long a :: vI j :: .ref (b + i) :: st) ((swL σ i nA j a).bind K) := s_bind fun y hy x hx H locs ls hH hS hL => by
  unfold swL at hy
  split at hy
  · rename_i hj
    cases hy
    have hn1 := ha.1
    have h0 := hJ.1 σ H hH i hi
    rw [ha.2 (σ i)] at h0
    refine W.last C.1 C.2.1 h0 ((hK.2 3 _ rfl).1 nA (fun j => .long (mkL (σ i (2 * j)) (σ i (2 * j + 1))))) (fun q => by cases q) (by show ¬ (_ < 0 ∨ (arrV _ _ _).slots.size ≤ _); rw [arrV_size]; exact i32_vin hj.1 hj.2 ha.1) rfl rfl hd fun H1 e1 z oq => ?_
    refine h _ (Rg_up (Rg_up hσ (loL_in a)) (hiL_in a)) x hx H1 _ ls (hJ.2 σ _ H H1 hH (fun q hq => ?_) z (fun q hq => oq q (show q ≠ b + i from fun e => by rcases hq with hq | hq <;> omega))) (hS.put z oq (hA _ ⟨by omega, by omega⟩)) hL
    by_cases eq : q = i
    · subst eq
      rw [ha.2]
      show H1[b + q]? = some (vp_cell _ _)
      rw [e1, i32_nat ⟨by omega, by omega⟩]
      show some (Cell.setSlot (vp_cell (G.1.1 7) (nA, .inr (.inl _))) _ _) = _
      rw [vp_cell_l, vp_cell_l, arrV_store]
      congr 2
      funext r
      unfold updV
      by_cases hr : r = j.toNat
      · subst hr
        rw [if_pos rfl, up2_at, up2_at]
        dsimp only
        rw [if_neg (by omega), if_pos rfl, if_pos rfl, mkL_of]
      · rw [if_neg hr, up2_at, up2_at]
        dsimp only
        rw [if_neg (by omega), if_neg (by omega), if_neg (by omega), if_neg (by omega)]
    · rw [up2_ne eq, up2_ne eq]
      exact (hJ.1 σ H hH q hq).kept (oq _ (show b + q ≠ b + i from fun e => eq (by omega)))
  · cases hy
theorem s_callS_W (C : Cx p s m args meth c cc nL own) {G : Gt} (hK : KA G s) {y : MethodName} {bytes : ByteArray} {maxL ix : Nat} {ret : Option FieldType} {rm : Room} {As rest st0 : List Value} {J : Blk → Heap → Prop} {σ : Blk} {A1 : Nat → Prop} {kc : Option (Int × Blk)} {K : Int → Blk → Option α} (np : Nat)
    (hM : MetS l y bytes maxL ret rm G As (J σ) (poW J) A1 0 0 kc) (hA : ∀ q, A1 q → A q) (hst0 : As.reverse ++ rest = st0) (hq : CallB R s args own ix y bytes maxL ret (.code y bytes maxL ret :: lw_g) rm 0 0 np) (hsm : Cond.static y ∈ lw_g)
    (hnp : As.length = np) (hcat : (rest.map fun v => v.category).sum ≤ 8) (hd : decode cc pc = .ok (.invokestatic ix, 3)) (hf : k ≤ R.cells ∧ n ≤ R.slots)
    (h : ∀ r σ', inR r → Rg σ' → Sim p l e R s m args below meth c nL A Q k n (J σ') (pc + 3) L (vI r :: rest) (K r σ')) : Sim p l e R s m args below meth c nL A Q k n (J σ) pc L st0 (bd2 kc K) := by
  subst hst0
  exact s_callS (K := fun z => K z.1 z.2) C hK np hM hA hq hsm hnp hcat hd hf (fun z v _ => s_poW (fun hr hs => h z.1 z.2 hr hs))
end TABROWS
