/-! references to rows: a row of a Book is told by its number, -1 is null -/
def rn (b : Nat) : Int → Value
  | .ofNat q => .ref (b + (8 + 3 * q))
  | .negSucc _ => .null
theorem rn_neg {b : Nat} {r : Int} (h : r < 0) : rn b r = .null := by
  match r, h with
  | .negSucc _, _ => rfl
/-- two Books that are the same -/
def eqn {α : Type} (a b : Nat) (K : Option α) : Option α := if a = b then K else none
def poR (I : Heap → Prop) (b : Nat) (r : Int) (v : Option Value) (H : Heap) : Prop := v = some (rn b r) ∧ I H
def poV (J : Blk → Heap → Prop) (b : Nat) (x : Int × Blk) (v : Option Value) (H : Heap) : Prop := v = some (rn b x.1) ∧ Rg x.2 ∧ J x.2 H
/-- Math.floorMod, of a number that isn't negative -/
def fm (a d : Int) : Option Int := if 0 ≤ a ∧ 0 < d then some (a % d) else none
section ROWREFS
variable {p : Program} {l : Launch} {e : Env} {R : Room} {s : State} {m : MethodId} {args : Array Value} {below : List Frame} {meth : Method} {c : Code}
variable {cc : ByteArray} {nL : Nat} {own : String}
variable {α β : Type} {A : Nat → Prop} {Q : α → State → Prop} {k n : Nat} {I : Heap → Prop} {pc : Nat} {L L' : List (Nat × Value)} {st : List Value} {kk : Option α}
theorem s_aload (C : Cx p s m args meth c cc nL own) {i : Nat} {a : Nat} (hd : decode cc pc = .ok (.aload i, 2)) (q : Nat) (hl : L[q]? = some (i, .ref a)) (h : Sim p l e R s m args below meth c nL A Q k n I (pc + 2) L (.ref a :: st) kk) : Sim p l e R s m args below meth c nL A Q k n I pc L st kk := fun x hx H locs ls hI hS hL => lv_aload C.1 C.2.1 hd (lv_at hL q hl) (h x hx H locs ls hI hS hL)
theorem s_astore (C : Cx p s m args meth c cc nL own) {i : Nat} {a : Nat} (hd : decode cc pc = .ok (.astore i, 2)) (hn : i < nL) (hl : (i, Value.ref a) :: L.filter (fun q => !(q.1 == i) && !(q.1 + 1 == i && q.2.category == 2)) = L') (h : Sim p l e R s m args below meth c nL A Q k n I (pc + 2) L' st kk) : Sim p l e R s m args below meth c nL A Q k n I pc L (.ref a :: st) kk := fun x hx H locs ls hI hS hL => lv_astore C.1 C.2.1 hd hL hn hl (fun ls' hL' => h x hx H locs ls' hI hS hL')
theorem s_aload_nR (C : Cx p s m args meth c cc nL own) {kf : Fin 4} {i b : Nat} {r : Int} (hd : decode cc pc = .ok (.aload_n kf, 1)) (hi : (kf : Nat) = i) (q : Nat) (hl : L[q]? = some (i, rn b r)) (h : Sim p l e R s m args below meth c nL A Q k n I (pc + 1) L (rn b r :: st) kk) : Sim p l e R s m args below meth c nL A Q k n I pc L st kk := fun x hx H locs ls hI hS hL => by
  match r, hl, h with
  | .ofNat _, hl, h => exact lv_aload_n C.1 C.2.1 hd hi (lv_at hL q hl) (h x hx H locs ls hI hS hL)
  | .negSucc _, hl, h => exact lv_aload_nN C.1 C.2.1 hd hi (lv_at hL q hl) (h x hx H locs ls hI hS hL)
theorem s_astore_nR (C : Cx p s m args meth c cc nL own) {kf : Fin 4} {i b : Nat} {r : Int} (hd : decode cc pc = .ok (.astore_n kf, 1)) (hi : (kf : Nat) = i) (hn : i < nL) (L1 : Value → List (Nat × Value)) (hl : ∀ v : Value, (i, v) :: L.filter (fun q => !(q.1 == i) && !(q.1 + 1 == i && q.2.category == 2)) = L1 v) (h : Sim p l e R s m args below meth c nL A Q k n I (pc + 1) (L1 (rn b r)) st kk) : Sim p l e R s m args below meth c nL A Q k n I pc L (rn b r :: st) kk := fun x hx H locs ls hI hS hL => by
  match r, h with
  | .ofNat _, h => exact lv_astore_n C.1 C.2.1 hd hi hL hn (hl _) (fun ls' hL' => h x hx H locs ls' hI hS hL')
  | .negSucc _, h => exact lv_astore_nN C.1 C.2.1 hd hi hL hn (hl _) (fun ls' hL' => h x hx H locs ls' hI hS hL')
theorem s_null (C : Cx p s m args meth c cc nL own) (hd : decode cc pc = .ok (.aconst_null, 1)) (h : Sim p l e R s m args below meth c nL A Q k n I (pc + 1) L (.null :: st) kk) : Sim p l e R s m args below meth c nL A Q k n I pc L st kk := fun x hx H locs ls hI hS hL => lv_null C.1 C.2.1 hd (h x hx H locs ls hI hS hL)
theorem s_ifnullW (C : Cx p s m args meth c cc nL own) {a : Nat} {off : Int} (hd : decode cc pc = .ok (.ifnull off, 3)) (h : Sim p l e R s m args below meth c nL A Q k n I (pc + 3) L st kk) : Sim p l e R s m args below meth c nL A Q k n I pc L (.ref a :: st) kk := fun x hx H locs ls hI hS hL => lv_ifnull C.1 C.2.1 hd (h x hx H locs ls hI hS hL)
theorem s_ifnonnullW (C : Cx p s m args meth c cc nL own) {a : Nat} {off : Int} {tgt : Nat} (hd : decode cc pc = .ok (.ifnonnull off, 3)) (ht : (pc : Int) + off = (tgt : Int)) (h : Sim p l e R s m args below meth c nL A Q k n I tgt L st kk) : Sim p l e R s m args below meth c nL A Q k n I pc L (.ref a :: st) kk := fun x hx H locs ls hI hS hL => lv_ifnonnull C.1 C.2.1 hd ht (h x hx H locs ls hI hS hL)
theorem s_ifnullR (C : Cx p s m args meth c cc nL own) {b : Nat} {r : Int} {off : Int} {tgt : Nat} {K1 K2 : Option α} (hd : decode cc pc = .ok (.ifnull off, 3)) (ht : (pc : Int) + off = (tgt : Int)) (h1 : Sim p l e R s m args below meth c nL A Q k n I tgt L st K1) (h2 : Sim p l e R s m args below meth c nL A Q k n I (pc + 3) L st K2) : Sim p l e R s m args below meth c nL A Q k n I pc L (rn b r :: st) (if r < 0 then K1 else K2) := fun z hz H locs ls hI hS hL => by
  match r, hz with
  | .ofNat q, hz =>
    rw [if_neg (by show ¬ ((q : Int) < 0); omega)] at hz
    exact lv_ifnull C.1 C.2.1 hd (h2 z hz H locs ls hI hS hL)
  | .negSucc q, hz =>
    rw [if_pos (Int.negSucc_lt_zero q)] at hz
    exact lv_ifnullN C.1 C.2.1 hd ht (h1 z hz H locs ls hI hS hL)
theorem s_ifnonnullR (C : Cx p s m args meth c cc nL own) {b : Nat} {r : Int} {off : Int} {tgt : Nat} {K1 K2 : Option α} (hd : decode cc pc = .ok (.ifnonnull off, 3)) (ht : (pc : Int) + off = (tgt : Int)) (h1 : Sim p l e R s m args below meth c nL A Q k n I (pc + 3) L st K1) (h2 : Sim p l e R s m args below meth c nL A Q k n I tgt L st K2) : Sim p l e R s m args below meth c nL A Q k n I pc L (rn b r :: st) (if r < 0 then K1 else K2) := fun z hz H locs ls hI hS hL => by
  match r, hz with
  | .ofNat q, hz =>
    rw [if_neg (by show ¬ ((q : Int) < 0); omega)] at hz
    exact lv_ifnonnull C.1 C.2.1 hd ht (h2 z hz H locs ls hI hS hL)
  | .negSucc q, hz =>
    rw [if_pos (Int.negSucc_lt_zero q)] at hz
    exact lv_ifnonnullN C.1 C.2.1 hd (h1 z hz H locs ls hI hS hL)
/-- a row's number, where it isn't null -/
theorem s_gkR {r : Int} {nb : Nat} {K : Nat → Option α} (h : ∀ q : Nat, q < nb → r = (q : Int) → Sim p l e R s m args below meth c nL A Q k n I pc L st (K q)) : Sim p l e R s m args below meth c nL A Q k n I pc L st (gk r nb K) := by
  unfold gk
  split
  · rename_i h1
    exact h r.toNat (by omega) (by omega)
  · exact s_none
theorem s_ite0 {φ : Prop} [Decidable φ] (h : φ → Sim p l e R s m args below meth c nL A Q k n I pc L st kk) : Sim p l e R s m args below meth c nL A Q k n I pc L st (if φ then kk else none) := s_ite h (fun _ => s_none)
theorem s_ite0m {φ : Prop} [Decidable φ] (hφ : φ) (h : Sim p l e R s m args below meth c nL A Q k n I pc L st (if φ then kk else none)) : Sim p l e R s m args below meth c nL A Q k n I pc L st kk := by
  rw [if_pos hφ] at h
  exact h
theorem s_ite1m {φ : Prop} [Decidable φ] (hφ : ¬ φ) (h : Sim p l e R s m args below meth c nL A Q k n I pc L st (if φ then none else kk)) : Sim p l e R s m args below meth c nL A Q k n I pc L st kk := by
  rw [if_neg hφ] at h
  exact h
theorem s_eqn {a b : Nat} (h : a = b → Sim p l e R s m args below meth c nL A Q k n I pc L st kk) : Sim p l e R s m args below meth c nL A Q k n I pc L st (eqn a b kk) := by
  unfold eqn
  split
  · exact h (by assumption)
  · exact s_none
theorem s_aret {po : α → Option Value → Heap → Prop} (C : Cx p s m args meth c cc nL own) {T : String} (hr : meth.sig.returnType = some (.object T)) {v : Value} {x : α} {b : Nat} (r : Int) (hv : v = rn b r) (hd : decode cc pc = .ok (.areturn, 1)) (h : ∀ H, I H → po x (some (rn b r)) H) : Sim p l e R s m args below meth c nL A (fun x => MQ below (Qm (po x) A) args s k n A) k n I pc L [v] (some x) := fun x' hx' H locs ls hI hS hL => by
  cases hx'
  subst hv
  refine W.aret C.1 C.2.1 hr (Or.inl ⟨_, rfl⟩) ?_ (fun t ht hW => ⟨⟨_, rfl, by rw [ht]; exact h H hI⟩, hS.F ht⟩) hS.2.2 hd C.2.2.2.2.2
  match r with
  | .ofNat _ => exact Or.inr ⟨_, rfl⟩
  | .negSucc _ => exact Or.inl rfl
theorem s_ixor (C : Cx p s m args meth c cc nL own) {a b : Int} (hd : decode cc pc = .ok (.ixor, 1)) (h : Sim p l e R s m args below meth c nL A Q k n I (pc + 1) L (.int (Int32.ofInt a ^^^ Int32.ofInt b) :: st) kk) : Sim p l e R s m args below meth c nL A Q k n I pc L (vI b :: vI a :: st) kk := fun x hx H locs ls hI hS hL => lv_ixor C.1 C.2.1 hd (h x hx H locs ls hI hS hL)
theorem cn_of (C : Cx p s m args meth c cc nL own) {G : Gt} (hK : KA G s) {y : MethodName} {bytes : ByteArray} {maxL : Nat} {ret : Option FieldType} {rm : Room} {mc ms ix : Nat} {host : String} (np : Nat) (hcode : Cond.code y bytes maxL ret ∈ lw_g) (hini : Cond.initialized y.cls ∈ lw_g) (hl : Cond.methodLinkNest own ix y host ∈ nwl) (hrc : rm.cells = mc) (hrs : rm.slots = ms)
    (hd : y.cls ≠ "java/lang/invoke/MethodHandle" ∧ y.cls ≠ "java/lang/invoke/VarHandle" ∧ (parseMethodDescriptor y.desc).map (fun d => d.parameters.length) = some np) (hR : rm.frames + 1 ≤ R.frames ∧ 8 + (maxL + 11) + rm.locals ≤ R.locals) : va_CN R s args own ix y host bytes maxL ret (.code y bytes maxL ret :: lw_g) rm mc ms np :=
  va_cnB np C.2.2.2.2.1 (gd_tbl hcode) rfl hrc hrs (hK.2.2 _ hl) (C.2.2.2.2.1 _ hini) hd hR
/-- a call of a nest mate's private static method -/
theorem s_callSN (C : Cx p s m args meth c cc nL own) {G : Gt} (hK : KA G s) {y : MethodName} {bytes : ByteArray} {maxL ix : Nat} {ret : Option FieldType} {rm : Room} {As rest : List Value} {po : β → Option Value → Heap → Prop} {A1 : Nat → Prop} {mc ms : Nat} {kc : Option β} {K : β → Option α} {host : String} (np : Nat)
    (hM : MetS l y bytes maxL ret rm G As I po A1 mc ms kc) (hA : ∀ q, A1 q → A q) (hq : va_CN R s args own ix y host bytes maxL ret (.code y bytes maxL ret :: lw_g) rm mc ms np) (hst : Cond.static y ∈ lw_g)
    (hnp : As.length = np) (hcat : (rest.map fun v => v.category).sum ≤ 8) (hd : decode cc pc = .ok (.invokestatic ix, 3)) (hf : k + mc ≤ R.cells ∧ n + ms ≤ R.slots)
    (h : ∀ x v, kc = some x → Sim p l e R s m args below meth c nL A Q (k + mc) (n + ms) (po x v) (pc + 3) L (v.toList ++ rest) (K x)) : Sim p l e R s m args below meth c nL A Q k n I pc L (As.reverse ++ rest) (kc.bind K) := s_bind fun z hz x hx H locs ls hI hS hL =>
  s_run (G := G) (y := y) hA (va_runSN (As := As) (rest := rest) ⟨C.1, C.2.1, C.2.2.1, C.2.2.2.1, C.2.2.2.2.1⟩ (hM z hz) ⟨hq, C.2.2.2.2.1 _ hst, trivial⟩ ⟨pc_blind, fun U hU hW => pc_in hK hI U hU hW⟩ rfl hnp hL.1 rfl (lv_room hcat) hd hf) hS (fun v H1 locs1 hp _ _ hS1 => h z v hz x hx H1 locs1 ls hp hS1 hL)
theorem s_callSN_P (C : Cx p s m args meth c cc nL own) {G : Gt} (hK : KA G s) {y : MethodName} {bytes : ByteArray} {maxL ix : Nat} {ret : Option FieldType} {rm : Room} {As rest st0 : List Value} {kc : Option Int} {K : Int → Option α} {host : String} (np : Nat)
    (hM : MetS l y bytes maxL ret rm G As I (poP I) (fun _ => False) 0 0 kc) (hst0 : As.reverse ++ rest = st0) (hq : va_CN R s args own ix y host bytes maxL ret (.code y bytes maxL ret :: lw_g) rm 0 0 np) (hsm : Cond.static y ∈ lw_g)
    (hnp : As.length = np) (hcat : (rest.map fun v => v.category).sum ≤ 8) (hd : decode cc pc = .ok (.invokestatic ix, 3)) (hf : k ≤ R.cells ∧ n ≤ R.slots)
    (h : ∀ r, inR r → Sim p l e R s m args below meth c nL A Q k n I (pc + 3) L (vI r :: rest) (K r)) : Sim p l e R s m args below meth c nL A Q k n I pc L st0 (kc.bind K) := by
  subst hst0
  exact s_callSN C hK np hM (fun _ h => h.elim) hq hsm hnp hcat hd hf (fun r v _ => s_poP (fun hr => h r hr))
theorem s_callSN_U (C : Cx p s m args meth c cc nL own) {G : Gt} (hK : KA G s) {y : MethodName} {bytes : ByteArray} {maxL ix : Nat} {ret : Option FieldType} {rm : Room} {As rest st0 : List Value} {J : Blk → Heap → Prop} {σ : Blk} {A1 : Nat → Prop} {kc : Option Blk} {K : Blk → Option α} {host : String} (np : Nat)
    (hM : MetS l y bytes maxL ret rm G As (J σ) (poU J) A1 0 0 kc) (hA : ∀ q, A1 q → A q) (hst0 : As.reverse ++ rest = st0) (hq : va_CN R s args own ix y host bytes maxL ret (.code y bytes maxL ret :: lw_g) rm 0 0 np) (hsm : Cond.static y ∈ lw_g)
    (hnp : As.length = np) (hcat : (rest.map fun v => v.category).sum ≤ 8) (hd : decode cc pc = .ok (.invokestatic ix, 3)) (hf : k ≤ R.cells ∧ n ≤ R.slots)
    (h : ∀ σ', Rg σ' → Sim p l e R s m args below meth c nL A Q k n (J σ') (pc + 3) L rest (K σ')) : Sim p l e R s m args below meth c nL A Q k n (J σ) pc L st0 (kc.bind K) := by
  subst hst0
  exact s_callSN C hK np hM hA hq hsm hnp hcat hd hf (fun z v _ => s_poU (fun hs => h z hs))
/-- calls that answer a reference to a row -/
theorem s_callV_R (C : Cx p s m args meth c cc nL own) {G : Gt} (hK : KA G s) {y : MethodName} {bytes : ByteArray} {maxL ix b : Nat} {ret : Option FieldType} {rm : Room} {As rest st0 : List Value} {a : Nat} {kc : Option Int} {K : Int → Option α} (np : Nat)
    (hM : MetS l y bytes maxL ret rm G (.ref a :: As) I (poR I b) (fun _ => False) 0 0 kc) (hst0 : As.reverse ++ .ref a :: rest = st0) (hq : CallB R s args own ix y bytes maxL ret (.code y bytes maxL ret :: lw_g) rm 0 0 np) (hin : Cond.instanceMethod y ∈ lw_g) (hse : Cond.selects y.cls y y ∈ lw_g) (hrv : ∀ H, I H → ∃ cell : Cell, H[a]? = some cell ∧ cell.vm.isStatics = false ∧ s.vm.findClass y.cls = some cell.cls)
    (hnp : As.length = np) (hcat : (rest.map fun v => v.category).sum ≤ 8) (hd : decode cc pc = .ok (.invokevirtual ix, 3)) (hf : k ≤ R.cells ∧ n ≤ R.slots)
    (h : ∀ r, Sim p l e R s m args below meth c nL A Q k n I (pc + 3) L (rn b r :: rest) (K r)) : Sim p l e R s m args below meth c nL A Q k n I pc L st0 (kc.bind K) := by
  subst hst0
  exact s_callV C hK np hM (fun _ h => h.elim) hq hin hse hrv hnp hcat hd hf (fun r v _ => fun x hx H locs ls hI hS hL => by
    obtain ⟨rfl, h2⟩ := hI
    exact h r x hx H locs ls h2 hS hL)
theorem s_callV_V (C : Cx p s m args meth c cc nL own) {G : Gt} (hK : KA G s) {y : MethodName} {bytes : ByteArray} {maxL ix b : Nat} {ret : Option FieldType} {rm : Room} {As rest st0 : List Value} {a : Nat} {J : Blk → Heap → Prop} {σ : Blk} {A1 : Nat → Prop} {kc : Option (Int × Blk)} {K : Int → Blk → Option α} (np : Nat)
    (hM : MetS l y bytes maxL ret rm G (.ref a :: As) (J σ) (poV J b) A1 0 0 kc) (hA : ∀ q, A1 q → A q) (hst0 : As.reverse ++ .ref a :: rest = st0) (hq : CallB R s args own ix y bytes maxL ret (.code y bytes maxL ret :: lw_g) rm 0 0 np) (hin : Cond.instanceMethod y ∈ lw_g) (hse : Cond.selects y.cls y y ∈ lw_g) (hrv : ∀ H, J σ H → ∃ cell : Cell, H[a]? = some cell ∧ cell.vm.isStatics = false ∧ s.vm.findClass y.cls = some cell.cls)
    (hnp : As.length = np) (hcat : (rest.map fun v => v.category).sum ≤ 8) (hd : decode cc pc = .ok (.invokevirtual ix, 3)) (hf : k ≤ R.cells ∧ n ≤ R.slots)
    (h : ∀ r σ', Rg σ' → Sim p l e R s m args below meth c nL A Q k n (J σ') (pc + 3) L (rn b r :: rest) (K r σ')) : Sim p l e R s m args below meth c nL A Q k n (J σ) pc L st0 (bd2 kc K) := by
  subst hst0
  exact s_callV (K := fun z => K z.1 z.2) C hK np hM hA hq hin hse hrv hnp hcat hd hf (fun z v _ => fun x hx H locs ls hI hS hL => by
    obtain ⟨rfl, h1, h2⟩ := hI
    exact h z.1 z.2 h1 x hx H locs ls h2 hS hL)
end ROWREFS
