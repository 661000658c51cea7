section ROWS2
variable {p : Program} {l : Launch} {e : Env} {R : Room} {s : State} {m : MethodId} {args : Array Value} {below : List Frame} {meth : Method} {c : Code}
variable {cc : ByteArray} {nL : Nat} {own : String}
variable {α β : Type} {A : Nat → Prop} {Q : α → State → Prop} {k n : Nat} {I : Heap → Prop} {pc : Nat} {L L' : List (Nat × Value)} {st : List Value} {kk : Option α}

theorem s_icmp_eq (C : Cx p s m args meth c cc nL own) {a b : Int} {off : Int} {tgt : Nat} {K1 K2 : Option α} (hd : decode cc pc = .ok (.if_icmp .eq off, 3)) (ht : (pc : Int) + off = (tgt : Int)) (ha : inR a) (hb : inR b) (h1 : Sim p l e R s m args below meth c nL A Q k n I tgt L st K1) (h2 : Sim p l e R s m args below meth c nL A Q k n I (pc + 3) L st K2) : Sim p l e R s m args below meth c nL A Q k n I pc L (vI b :: vI a :: st) (if a = b then K1 else K2) := fun x hx H locs ls hI hS hL => lv_icmp_eq C.1 C.2.1 hd ht (fun z => by
    rw [if_pos ((i32_eq ha hb).mp z)] at hx
    exact h1 x hx H locs ls hI hS hL) (fun z => by
    rw [if_neg (fun q => z ((i32_eq ha hb).mpr q))] at hx
    exact h2 x hx H locs ls hI hS hL)
theorem s_icmp_ne (C : Cx p s m args meth c cc nL own) {a b : Int} {off : Int} {tgt : Nat} {K1 K2 : Option α} (hd : decode cc pc = .ok (.if_icmp .ne off, 3)) (ht : (pc : Int) + off = (tgt : Int)) (ha : inR a) (hb : inR b) (h1 : Sim p l e R s m args below meth c nL A Q k n I tgt L st K1) (h2 : Sim p l e R s m args below meth c nL A Q k n I (pc + 3) L st K2) : Sim p l e R s m args below meth c nL A Q k n I pc L (vI b :: vI a :: st) (if a ≠ b then K1 else K2) := fun x hx H locs ls hI hS hL => lv_icmp_ne C.1 C.2.1 hd ht (fun z => by
    rw [if_pos (fun q => z ((i32_eq ha hb).mpr q))] at hx
    exact h1 x hx H locs ls hI hS hL) (fun z => by
    rw [if_neg (fun q => q ((i32_eq ha hb).mp z))] at hx
    exact h2 x hx H locs ls hI hS hL)
theorem s_icmp_lt (C : Cx p s m args meth c cc nL own) {a b : Int} {off : Int} {tgt : Nat} {K1 K2 : Option α} (hd : decode cc pc = .ok (.if_icmp .lt off, 3)) (ht : (pc : Int) + off = (tgt : Int)) (ha : inR a) (hb : inR b) (h1 : Sim p l e R s m args below meth c nL A Q k n I tgt L st K1) (h2 : Sim p l e R s m args below meth c nL A Q k n I (pc + 3) L st K2) : Sim p l e R s m args below meth c nL A Q k n I pc L (vI b :: vI a :: st) (if a < b then K1 else K2) := fun x hx H locs ls hI hS hL => lv_icmp_lt C.1 C.2.1 hd ht (fun z => by
    rw [if_pos ((i32_lt ha hb).mp z)] at hx
    exact h1 x hx H locs ls hI hS hL) (fun z => by
    rw [if_neg (fun q => z ((i32_lt ha hb).mpr q))] at hx
    exact h2 x hx H locs ls hI hS hL)
theorem s_icmp_ge (C : Cx p s m args meth c cc nL own) {a b : Int} {off : Int} {tgt : Nat} {K1 K2 : Option α} (hd : decode cc pc = .ok (.if_icmp .ge off, 3)) (ht : (pc : Int) + off = (tgt : Int)) (ha : inR a) (hb : inR b) (h1 : Sim p l e R s m args below meth c nL A Q k n I tgt L st K1) (h2 : Sim p l e R s m args below meth c nL A Q k n I (pc + 3) L st K2) : Sim p l e R s m args below meth c nL A Q k n I pc L (vI b :: vI a :: st) (if b ≤ a then K1 else K2) := fun x hx H locs ls hI hS hL => lv_icmp_ge C.1 C.2.1 hd ht (fun z => by
    rw [if_pos ((i32_le hb ha).mp z)] at hx
    exact h1 x hx H locs ls hI hS hL) (fun z => by
    rw [if_neg (fun q => z ((i32_le hb ha).mpr q))] at hx
    exact h2 x hx H locs ls hI hS hL)
theorem s_icmp_gt (C : Cx p s m args meth c cc nL own) {a b : Int} {off : Int} {tgt : Nat} {K1 K2 : Option α} (hd : decode cc pc = .ok (.if_icmp .gt off, 3)) (ht : (pc : Int) + off = (tgt : Int)) (ha : inR a) (hb : inR b) (h1 : Sim p l e R s m args below meth c nL A Q k n I tgt L st K1) (h2 : Sim p l e R s m args below meth c nL A Q k n I (pc + 3) L st K2) : Sim p l e R s m args below meth c nL A Q k n I pc L (vI b :: vI a :: st) (if b < a then K1 else K2) := fun x hx H locs ls hI hS hL => lv_icmp_gt C.1 C.2.1 hd ht (fun z => by
    rw [if_pos ((i32_lt hb ha).mp z)] at hx
    exact h1 x hx H locs ls hI hS hL) (fun z => by
    rw [if_neg (fun q => z ((i32_lt hb ha).mpr q))] at hx
    exact h2 x hx H locs ls hI hS hL)
theorem s_icmp_le (C : Cx p s m args meth c cc nL own) {a b : Int} {off : Int} {tgt : Nat} {K1 K2 : Option α} (hd : decode cc pc = .ok (.if_icmp .le off, 3)) (ht : (pc : Int) + off = (tgt : Int)) (ha : inR a) (hb : inR b) (h1 : Sim p l e R s m args below meth c nL A Q k n I tgt L st K1) (h2 : Sim p l e R s m args below meth c nL A Q k n I (pc + 3) L st K2) : Sim p l e R s m args below meth c nL A Q k n I pc L (vI b :: vI a :: st) (if a ≤ b then K1 else K2) := fun x hx H locs ls hI hS hL => lv_icmp_le C.1 C.2.1 hd ht (fun z => by
    rw [if_pos ((i32_le ha hb).mp z)] at hx
    exact h1 x hx H locs ls hI hS hL) (fun z => by
    rw [if_neg (fun q => z ((i32_le ha hb).mpr q))] at hx
    exact h2 x hx H locs ls hI hS hL)
theorem s_if_eq (C : Cx p s m args meth c cc nL own) {a : Int} {off : Int} {tgt : Nat} {K1 K2 : Option α} (hd : decode cc pc = .ok (.ifCond .eq off, 3)) (ht : (pc : Int) + off = (tgt : Int)) (ha : inR a) (h1 : Sim p l e R s m args below meth c nL A Q k n I tgt L st K1) (h2 : Sim p l e R s m args below meth c nL A Q k n I (pc + 3) L st K2) : Sim p l e R s m args below meth c nL A Q k n I pc L (vI a :: st) (if a = 0 then K1 else K2) := fun x hx H locs ls hI hS hL => lv_if_eq C.1 C.2.1 hd ht (fun z => by
    rw [if_pos ((i32_eq ha (inR_c 0 rfl)).mp z)] at hx
    exact h1 x hx H locs ls hI hS hL) (fun z => by
    rw [if_neg (fun q => z ((i32_eq ha (inR_c 0 rfl)).mpr q))] at hx
    exact h2 x hx H locs ls hI hS hL)
theorem s_if_ne (C : Cx p s m args meth c cc nL own) {a : Int} {off : Int} {tgt : Nat} {K1 K2 : Option α} (hd : decode cc pc = .ok (.ifCond .ne off, 3)) (ht : (pc : Int) + off = (tgt : Int)) (ha : inR a) (h1 : Sim p l e R s m args below meth c nL A Q k n I tgt L st K1) (h2 : Sim p l e R s m args below meth c nL A Q k n I (pc + 3) L st K2) : Sim p l e R s m args below meth c nL A Q k n I pc L (vI a :: st) (if a ≠ 0 then K1 else K2) := fun x hx H locs ls hI hS hL => lv_if_ne C.1 C.2.1 hd ht (fun z => by
    rw [if_pos (fun q => z ((i32_eq ha (inR_c 0 rfl)).mpr q))] at hx
    exact h1 x hx H locs ls hI hS hL) (fun z => by
    rw [if_neg (fun q => q ((i32_eq ha (inR_c 0 rfl)).mp z))] at hx
    exact h2 x hx H locs ls hI hS hL)
theorem s_if_lt (C : Cx p s m args meth c cc nL own) {a : Int} {off : Int} {tgt : Nat} {K1 K2 : Option α} (hd : decode cc pc = .ok (.ifCond .lt off, 3)) (ht : (pc : Int) + off = (tgt : Int)) (ha : inR a) (h1 : Sim p l e R s m args below meth c nL A Q k n I tgt L st K1) (h2 : Sim p l e R s m args below meth c nL A Q k n I (pc + 3) L st K2) : Sim p l e R s m args below meth c nL A Q k n I pc L (vI a :: st) (if a < 0 then K1 else K2) := fun x hx H locs ls hI hS hL => lv_if_lt C.1 C.2.1 hd ht (fun z => by
    rw [if_pos ((i32_lt ha (inR_c 0 rfl)).mp z)] at hx
    exact h1 x hx H locs ls hI hS hL) (fun z => by
    rw [if_neg (fun q => z ((i32_lt ha (inR_c 0 rfl)).mpr q))] at hx
    exact h2 x hx H locs ls hI hS hL)
theorem s_if_ge (C : Cx p s m args meth c cc nL own) {a : Int} {off : Int} {tgt : Nat} {K1 K2 : Option α} (hd : decode cc pc = .ok (.ifCond .ge off, 3)) (ht : (pc : Int) + off = (tgt : Int)) (ha : inR a) (h1 : Sim p l e R s m args below meth c nL A Q k n I tgt L st K1) (h2 : Sim p l e R s m args below meth c nL A Q k n I (pc + 3) L st K2) : Sim p l e R s m args below meth c nL A Q k n I pc L (vI a :: st) (if 0 ≤ a then K1 else K2) := fun x hx H locs ls hI hS hL => lv_if_ge C.1 C.2.1 hd ht (fun z => by
    rw [if_pos ((i32_le (inR_c 0 rfl) ha).mp z)] at hx
    exact h1 x hx H locs ls hI hS hL) (fun z => by
    rw [if_neg (fun q => z ((i32_le (inR_c 0 rfl) ha).mpr q))] at hx
    exact h2 x hx H locs ls hI hS hL)
theorem s_if_gt (C : Cx p s m args meth c cc nL own) {a : Int} {off : Int} {tgt : Nat} {K1 K2 : Option α} (hd : decode cc pc = .ok (.ifCond .gt off, 3)) (ht : (pc : Int) + off = (tgt : Int)) (ha : inR a) (h1 : Sim p l e R s m args below meth c nL A Q k n I tgt L st K1) (h2 : Sim p l e R s m args below meth c nL A Q k n I (pc + 3) L st K2) : Sim p l e R s m args below meth c nL A Q k n I pc L (vI a :: st) (if 0 < a then K1 else K2) := fun x hx H locs ls hI hS hL => lv_if_gt C.1 C.2.1 hd ht (fun z => by
    rw [if_pos ((i32_lt (inR_c 0 rfl) ha).mp z)] at hx
    exact h1 x hx H locs ls hI hS hL) (fun z => by
    rw [if_neg (fun q => z ((i32_lt (inR_c 0 rfl) ha).mpr q))] at hx
    exact h2 x hx H locs ls hI hS hL)
theorem s_if_le (C : Cx p s m args meth c cc nL own) {a : Int} {off : Int} {tgt : Nat} {K1 K2 : Option α} (hd : decode cc pc = .ok (.ifCond .le off, 3)) (ht : (pc : Int) + off = (tgt : Int)) (ha : inR a) (h1 : Sim p l e R s m args below meth c nL A Q k n I tgt L st K1) (h2 : Sim p l e R s m args below meth c nL A Q k n I (pc + 3) L st K2) : Sim p l e R s m args below meth c nL A Q k n I pc L (vI a :: st) (if a ≤ 0 then K1 else K2) := fun x hx H locs ls hI hS hL => lv_if_le C.1 C.2.1 hd ht (fun z => by
    rw [if_pos ((i32_le ha (inR_c 0 rfl)).mp z)] at hx
    exact h1 x hx H locs ls hI hS hL) (fun z => by
    rw [if_neg (fun q => z ((i32_le ha (inR_c 0 rfl)).mpr q))] at hx
    exact h2 x hx H locs ls hI hS hL)
-- more arithmetic
theorem s_irem (C : Cx p s m args meth c cc nL own) {a d : Int} {K : Int → Option α} (hd : decode cc pc = .ok (.irem, 1)) (ha : inR a) (hdr : inR d) (hp : 0 < d) (h : ∀ v, inR v → Sim p l e R s m args below meth c nL A Q k n I (pc + 1) L (vI v :: st) (K v)) : Sim p l e R s m args below meth c nL A Q k n I pc L (vI d :: vI a :: st) ((rm_ a d).bind K) := s_bind fun y hy x hx H locs ls hI hS hL => by
  unfold rm_ at hy
  split at hy
  · rename_i h0
    cases hy
    refine lv_irem C.1 C.2.1 hd (fun z => ?_) ?_
    · have := (i32_eq hdr (inR_c 0 rfl)).mp z
      omega
    · have e1 : Int32.ofInt a - Int32.ofInt a / Int32.ofInt d * Int32.ofInt d = Int32.ofInt (a % d) := by
        rw [i32_div ha h0 hdr hp, ← Int32.ofInt_mul, ← Int32.ofInt_sub]
        congr 1
        have := Int.emod_add_mul_ediv a d
        rw [Int.mul_comm] at this
        omega
      rw [e1]
      exact h _ (rm_in hdr hp) x hx H locs ls hI hS hL
  · cases hy
theorem s_iand (C : Cx p s m args meth c cc nL own) {a b : Int} (hd : decode cc pc = .ok (.iand, 1)) (h : Sim p l e R s m args below meth c nL A Q k n I (pc + 1) L (vI (iand a b) :: st) kk) : Sim p l e R s m args below meth c nL A Q k n I pc L (vI b :: vI a :: st) kk := fun x hx H locs ls hI hS hL => lv_iand C.1 C.2.1 hd (by rw [← i32_to (Int32.ofInt a &&& Int32.ofInt b)]; exact h x hx H locs ls hI hS hL)
theorem s_ior (C : Cx p s m args meth c cc nL own) {a b : Int} (hd : decode cc pc = .ok (.ior, 1)) (h : Sim p l e R s m args below meth c nL A Q k n I (pc + 1) L (vI (iorr a b) :: st) kk) : Sim p l e R s m args below meth c nL A Q k n I pc L (vI b :: vI a :: st) kk := fun x hx H locs ls hI hS hL => lv_ior C.1 C.2.1 hd (by rw [← i32_to (Int32.ofInt a ||| Int32.ofInt b)]; exact h x hx H locs ls hI hS hL)
theorem s_ishl (C : Cx p s m args meth c cc nL own) {a b : Int} (hd : decode cc pc = .ok (.ishl, 1)) (h : Sim p l e R s m args below meth c nL A Q k n I (pc + 1) L (vI (ishl a b) :: st) kk) : Sim p l e R s m args below meth c nL A Q k n I pc L (vI b :: vI a :: st) kk := fun x hx H locs ls hI hS hL => lv_ishl C.1 C.2.1 hd (by rw [← i32_to (Int32.ofInt a <<< (Int32.ofInt b &&& 31))]; exact h x hx H locs ls hI hS hL)
theorem s_ishr (C : Cx p s m args meth c cc nL own) {a b : Int} (hd : decode cc pc = .ok (.ishr, 1)) (h : Sim p l e R s m args below meth c nL A Q k n I (pc + 1) L (vI (ishr a b) :: st) kk) : Sim p l e R s m args below meth c nL A Q k n I pc L (vI b :: vI a :: st) kk := fun x hx H locs ls hI hS hL => lv_ishr C.1 C.2.1 hd (by rw [← i32_to (Int32.ofInt a >>> (Int32.ofInt b &&& 31))]; exact h x hx H locs ls hI hS hL)
theorem s_i2l (C : Cx p s m args meth c cc nL own) {a : Int} (hd : decode cc pc = .ok (.i2l, 1)) (h : Sim p l e R s m args below meth c nL A Q k n I (pc + 1) L (.long (i2l a) :: st) kk) : Sim p l e R s m args below meth c nL A Q k n I pc L (vI a :: st) kk := fun x hx H locs ls hI hS hL => lv_i2l C.1 C.2.1 hd rfl (h x hx H locs ls hI hS hL)
theorem s_l2i (C : Cx p s m args meth c cc nL own) {a : Int64} (hd : decode cc pc = .ok (.l2i, 1)) (h : Sim p l e R s m args below meth c nL A Q k n I (pc + 1) L (vI (l2i a) :: st) kk) : Sim p l e R s m args below meth c nL A Q k n I pc L (.long a :: st) kk := fun x hx H locs ls hI hS hL => lv_l2i C.1 C.2.1 hd (i32_to a.toInt32).symm (h x hx H locs ls hI hS hL)
theorem s_lushr (C : Cx p s m args meth c cc nL own) {a : Int64} {b : Int} (hd : decode cc pc = .ok (.lushr, 1)) (h : Sim p l e R s m args below meth c nL A Q k n I (pc + 1) L (.long (lushr a b) :: st) kk) : Sim p l e R s m args below meth c nL A Q k n I pc L (vI b :: .long a :: st) kk := fun x hx H locs ls hI hS hL => lv_lushr C.1 C.2.1 hd rfl (h x hx H locs ls hI hS hL)
theorem s_land (C : Cx p s m args meth c cc nL own) {a b : Int64} (hd : decode cc pc = .ok (.land, 1)) (h : Sim p l e R s m args below meth c nL A Q k n I (pc + 1) L (.long (a &&& b) :: st) kk) : Sim p l e R s m args below meth c nL A Q k n I pc L (.long b :: .long a :: st) kk := fun x hx H locs ls hI hS hL => lv_land C.1 C.2.1 hd (h x hx H locs ls hI hS hL)
-- the heap
theorem s_get (C : Cx p s m args meth c cc nL own) {G : Gt} (hK : KK G s) {lay : Lay} {N b i ci : Nat} {σ : Blk} {fs : (Nat → Int) → List Value} {Cn : String} {T : u_T} {Nf ix : Nat} {v : Value} (hI : ∀ H, I H → Bk G lay N b σ H) (hi : i < N) (ho : isO lay i ci fs) (hc : vwCl[ci]? = some (Cn, T, Nf)) (hin : ∀ w ∈ u_ws Cn T Nf, w ∈ lw_g) (f : Nat) (hf : f < Nf) (hw : Cond.fieldLink own ix (T f).1 (T f).2.1 (T f).2.2.1 ∈ lw_g) (hv : (fs (σ i))[f]? = some v) (hd : decode cc pc = .ok (.getfield ix, 3)) (h : Sim p l e R s m args below meth c nL A Q k n I (pc + 3) L (v :: st) kk) : Sim p l e R s m args below meth c nL A Q k n I pc L (.ref (b + i) :: st) kk := fun x hx H locs ls hH hS hL => by
  have h0 := hI H hH i hi
  rw [ho (σ i)] at h0
  exact va_get (D := G.1) (cl := vwCl) (ws := [(b + i, .inr (ci, fs (σ i)))]) (ref := (T f).1) C.1 C.2.1 C.2.2.2.2.1 hin C.2.2.2.1 hK (fun q z hz => by
    match q, hz with
    | 0, hz => cases hz; exact h0
    | q + 1, hz => simp at hz) 0 rfl hc f hf (C.2.2.2.2.1 _ hw) (fun _ z => z) hv hd (h x hx H locs ls hH hS hL)
theorem s_put (C : Cx p s m args meth c cc nL own) {G : Gt} (hK : KK G s) {lay : Lay} {N b i ci : Nat} {σ : Blk} {fs : (Nat → Int) → List Value} {Cn : String} {T : u_T} {ty0 : Nat → FieldType} {Nf ix : Nat} {a : Int} {J : Blk → Heap → Prop} (hJ : Wd G lay N b J) (hA : ∀ q, Ab b N q → A q) (hi : i < N) (ho : isO lay i ci fs) (hc : vwCl[ci]? = some (Cn, T, Nf)) (hin : ∀ w ∈ u_ws Cn T Nf, w ∈ lw_g) (hty : ∀ k, k < Nf → parseFieldDescriptor (T k).2.2.1 = some (ty0 k)) (hnm : ∀ a, a < Nf → ∀ b, b < Nf → a ≠ b → (T a).2.1 ≠ (T b).2.1) (f : Nat) (hf : f < Nf) (hw : Cond.fieldLink own ix (T f).1 (T f).2.1 (T f).2.2.1 ∈ lw_g) (hfin : (T f).2.2.2 = false) {ty : FieldType} (hd0 : parseFieldDescriptor (T f).2.2.1 = some ty) (hn : narrow ty (vI a) = vI a) (hfit : fits ty (vI a) = true) (hl : f < (fs (σ i)).length) (hset : fs (up2 σ i f a i) = (fs (σ i)).set f (vI a)) (hd : decode cc pc = .ok (.putfield ix, 3)) (h : Sim p l e R s m args below meth c nL A Q k n (J (up2 σ i f a)) (pc + 3) L st kk) : Sim p l e R s m args below meth c nL A Q k n (J σ) pc L (vI a :: .ref (b + i) :: st) kk := fun x hx H locs ls hH hS hL => by
  have hts := C.2.2.2.2.1
  have h0 := hJ.1 σ H hH i hi
  rw [ho (σ i)] at h0
  have hap := va_apart (own := own) hts hin ty0 hty hnm hK hc
  obtain ⟨r, h1, cell, q1, q2, q3, q4⟩ := h0
  have hr : r = (Cn, T, Nf) := Option.some.inj (h1.symm.trans hc)
  subst hr
  obtain ⟨hS0, hfc, kC, hkC, hkind⟩ := hK.1 ci _ hc
  obtain ⟨cf, kf, fi, fd, hi2, hsl⟩ := hS0 f hf
  have hlay := hts _ (hin _ (u_in_lay hf))
  unfold u_lay at hlay
  rw [if_neg (by rw [hfin]; decide)] at hlay
  have hst := (u_facts hfc hkC (u_lays hts hin hf) hi2).1
  have h6 := u_store hfc hkC hkind hlay hi2 hd0 hn hfit
  refine W.putK C.1 C.2.1 (f := fd) ⟨C.2.2.2.1, hts _ hw, ⟨_, _, _, hi2⟩, hst⟩ (by rw [q2]; exact h6) q1 q3 (by rw [hsl]; exact k2_hasslot (q4 f hf)) rfl rfl hd fun H' e1 e2 e3 => ?_
  rw [hsl] at e1 ⊢
  refine h x hx H' _ ls (hJ.set hH hi e2 e3 ?_) (hS.put e2 e3 (hA _ ⟨by omega, by omega⟩)) hL
  show va_at G.1 vwCl (b + i, lay i (up2 σ i f a i)) H'
  rw [ho, hset]
  exact ⟨_, hc, t_OB.to (V := updV (vp_V (fs (σ i))) f (vI a)) ⟨_, e1, q2, q3, t_set q4 hap hf (vI a)⟩ (fun j _ => vp_updV_set hl (vI a) j)⟩
theorem s_iaload (C : Cx p s m args meth c cc nL own) {G : Gt} (hK : KK G s) {lay : Lay} {N b i nA : Nat} {σ : Blk} {j : Int} {K : Int → Option α} (hI : ∀ H, I H → Bk G lay N b σ H) (hσ : Rg σ) (hi : i < N) (ha : isA G lay i nA) (hd : decode cc pc = .ok (.iaload, 1)) (h : ∀ v, inR v → Sim p l e R s m args below meth c nL A Q k n I (pc + 1) L (vI v :: st) (K v)) : Sim p l e R s m args below meth c nL A Q k n I pc L (vI j :: .ref (b + i) :: st) ((ld σ i nA j).bind K) := s_bind fun y hy x hx H locs ls hH hS hL => by
  unfold ld at hy
  split at hy
  · rename_i hj
    cases hy
    have h0 := hI H hH i hi
    rw [ha.2 (σ i)] at h0
    refine va_iald (D := G.1) (cl := vwCl) (ws := [(b + i, .inl (G.2.1, (nA, .inl (fun j => Int32.ofInt (σ i j)))))]) C.1 C.2.1 hK (fun q z hz => by
      match q, hz with
      | 0, hz => cases hz; exact h0
      | q + 1, hz => simp at hz) 0 0 rfl rfl (i32_vin hj.1 hj.2 ha.1) hd ?_
    have hn1 := ha.1
    rw [i32_nat ⟨by omega, by omega⟩]
    exact h _ (hσ _ _) x hx H locs ls hH hS hL
  · cases hy
theorem s_iastore (C : Cx p s m args meth c cc nL own) {G : Gt} (hK : KK G s) {lay : Lay} {N b i nA : Nat} {σ : Blk} {j a : Int} {K : Blk → Option α} {J : Blk → Heap → Prop} (hJ : Wd G lay N b J) (hA : ∀ q, Ab b N q → A q) (hσ : Rg σ) (hva : inR a) (hi : i < N) (ha : isA G lay i nA) (hd : decode cc pc = .ok (.iastore, 1)) (h : ∀ σ', Rg σ' → Sim p l e R s m args below meth c nL A Q k n (J σ') (pc + 1) L st (K σ')) : Sim p l e R s m args below meth c nL A Q k n (J σ) pc L (vI a :: vI j :: .ref (b + i) :: st) ((sw σ i nA j a).bind K) := s_bind fun y hy x hx H locs ls hH hS hL => by
  unfold sw at hy
  split at hy
  · rename_i hj
    cases hy
    have hn1 := ha.1
    have h0 := hJ.1 σ H hH i hi
    rw [ha.2 (σ i)] at h0
    refine W.iast C.1 C.2.1 h0 ((hK.2 0 _ rfl).1 nA (fun j => .int (Int32.ofInt (σ i j)))) (fun q => by cases q) (by show ¬ (_ < 0 ∨ (arrV _ _ _).slots.size ≤ _); rw [arrV_size]; exact i32_vin hj.1 hj.2 ha.1) rfl rfl hd fun H1 e1 z oq => ?_
    refine h _ (Rg_up hσ hva) x hx H1 _ ls (hJ.set hH hi z oq ?_) (hS.put z oq (hA _ ⟨by omega, by omega⟩)) hL
    rw [ha.2]
    show H1[b + i]? = some (vp_cell _ _)
    rw [e1, i32_nat ⟨by omega, by omega⟩]
    show some (Cell.setSlot (vp_cell G.2.1 (nA, .inl _)) _ _) = _
    rw [vp_cell_i, vp_cell_i, arrV_store]
    congr 2
    funext q
    by_cases hq : q = j.toNat
    · subst hq
      simp [updV, up2]
    · simp [updV, up2, hq]
  · cases hy
def gk {α : Type} (a : Int) (nb : Nat) (K : Nat → Option α) : Option α := if 0 ≤ a ∧ a < (nb : Int) then K a.toNat else none
theorem s_aaldW (C : Cx p s m args meth c cc nL own) {G : Gt} (hK : KK G s) {lay : Lay} {N b i nA w : Nat} {σ : Blk} {j : Int} {K : Nat → Option α} (hI : ∀ H, I H → Bk G lay N b σ H) (hi : i < N) (ha : isQ G lay b i nA w) (hd : decode cc pc = .ok (.aaload, 1)) (h : ∀ q : Nat, q < nA → Sim p l e R s m args below meth c nL A Q k n I (pc + 1) L (.ref (b + (w + 3 * q)) :: st) (K q)) : Sim p l e R s m args below meth c nL A Q k n I pc L (vI j :: .ref (b + i) :: st) (gk j nA K) := fun x hx H locs ls hH hS hL => by
  unfold gk at hx
  split at hx
  · rename_i hj
    have h0 := hI H hH i hi
    rw [ha.2 (σ i)] at h0
    have hn1 := ha.1
    have hjr : inR j := ⟨by omega, by omega⟩
    refine W.aald (v := .ref (b + (w + 3 * j.toNat))) (ty := .object RX7) C.1 C.2.1 h0 ((hK.2 1 _ rfl).1 nA (fun i => va_rf (if i < nA then some (b + (w + 3 * i)) else none))) rfl (fun q => by cases q) (by show ¬ (_ < 0 ∨ (arrV _ _ _).slots.size ≤ _); rw [arrV_size]; exact i32_vin hj.1 hj.2 ha.1) ?_ rfl rfl hd (h j.toNat (by omega) x hx H locs ls hH hS hL)
    show (arrV _ _ _).slots[_]? = _
    rw [i32_nat hjr, arrV_read _ _ (by omega : j.toNat < nA)]
    dsimp only
    rw [if_pos (by omega : j.toNat < nA)]
    rfl
  · cases hx

end ROWS2
