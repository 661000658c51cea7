/-! more rows: arraylength, System.arraycopy between two blocks -/
section MORE
variable {p : Program} {l : Launch} {e : Env} {R : Room} {s : State} {m : MethodId} {args : Array Value} {below : List Frame} {meth : Method} {c : Code}
variable {cc : ByteArray} {nL : Nat} {own : String}
variable {α β : Type} {A : Nat → Prop} {Q : α → State → Prop} {k n : Nat} {I : Heap → Prop} {pc : Nat} {L L' : List (Nat × Value)} {st : List Value} {kk : Option α}
theorem inA {G : Gt} {lay : Lay} {i nA : Nat} (h : isA G lay i nA) : inR (nA : Int) := ⟨by have := h.1; omega, by have := h.1; omega⟩
theorem s_alen (C : Cx p s m args meth c cc nL own) {G : Gt} (hK : KK G s) {lay : Lay} {N b i nA : Nat} {σ : Blk} (hI : ∀ H, I H → Bk G lay N b σ H) (hi : i < N) (ha : isA G lay i nA) (hd : decode cc pc = .ok (.arraylength, 1)) (h : Sim p l e R s m args below meth c nL A Q k n I (pc + 1) L (vI (nA : Int) :: st) kk) : Sim p l e R s m args below meth c nL A Q k n I pc L (.ref (b + i) :: st) kk := fun x hx H locs ls hH hS hL => by
  have h0 := hI H hH i hi
  rw [ha.2 (σ i)] at h0
  exact va_alen (D := G.1) (cl := vwCl) (ws := [(b + i, .inl (G.2.1, (nA, .inl (fun j => Int32.ofInt (σ i j)))))]) (ty := .int) C.1 C.2.1 hK (fun q z hz => by
    match q, hz with
    | 0, hz => cases hz; exact h0
    | q + 1, hz => simp at hz) 0 0 rfl rfl (Int32.ofInt_eq_ofNat (n := nA)).symm hd (h x hx H locs ls hH hS hL)
/-- the first n places of row c are row c2 of another block -/
def cpB (σ : Blk) (c : Nat) (τ : Blk) (c2 n : Nat) : Blk := fun i j => if i = c ∧ j < n then τ c2 j else σ i j
def pk {α : Type} (σ : Blk) (K : Blk → Option α) : Option α := K σ
theorem Rg_cpB {σ τ : Blk} {c c2 n : Nat} (h : Rg σ) (hτ : Rg τ) : Rg (cpB σ c τ c2 n) := by
  intro i j
  unfold cpB
  split
  · exact hτ _ _
  · exact h i j
theorem s_acopy (C : Cx p s m args meth c cc nL own) {G : Gt} (hK : KK G s) {lay lay2 : Lay} {N b i nA N2 b2 i2 : Nat} {σ τ : Blk} {z : Int} {ix : Nat} {J : Blk → Heap → Prop} {K : Blk → Option α} (hJ : Wd G lay N b J) (hA : ∀ q, Ab b N q → A q) (hσ : Rg σ) (hτ : Rg τ) (hO : ∀ H, J σ H → Bk G lay2 N2 b2 τ H) (hi : i < N) (ha : isA G lay i nA) (hi2 : i2 < N2) (ha2 : isA G lay2 i2 nA) (hz : z = (nA : Int)) (hl : Cond.methodLink own ix arraycopyName ∈ lw_g) (hfr : 1 ≤ R.frames) (hlo : (st.map fun v => v.category).sum + (nativeFrameWords "java/lang/System" "arraycopy" 5 + 11) ≤ R.locals) (hdg : decode cc pc = .ok (.invokestatic ix, 3)) (h : ∀ σ', Rg σ' → Sim p l e R s m args below meth c nL A Q k n (J σ') (pc + 3) L st (K σ')) : Sim p l e R s m args below meth c nL A Q k n (J σ) pc L (vI z :: vI 0 :: .ref (b + i) :: vI 0 :: .ref (b2 + i2) :: st) (pk (cpB σ i τ i2 nA) K) := fun x hx H locs ls hH hS hL => by
  subst hz
  have hn1 := ha.1
  have en : (Int32.ofInt (nA : Int)).toNatClampNeg = nA := by rw [i32_nat (inA ha)]; simp
  have e0 : (Int32.ofInt 0).toNatClampNeg = 0 := by rw [i32_nat (inR_c 0 rfl)]; rfl
  have h10 : ¬ (Int32.ofInt 0 : Int32) < 0 := by decide
  have hn0 : ¬ Int32.ofInt (nA : Int) < 0 := fun q => by
    have := (i32_lt (inA ha) (inR_c 0 rfl)).mp q
    omega
  have hc0 : H[b2 + i2]? = some (vp_cell G.2.1 (nA, .inl (fun j => Int32.ofInt (τ i2 j)))) := by
    have h0 := hO H hH i2 hi2
    rw [ha2.2 (τ i2)] at h0
    exact h0
  have hc1 : H[b + i]? = some (vp_cell G.2.1 (nA, .inl (fun j => Int32.ofInt (σ i j)))) := by
    have h0 := hJ.1 σ H hH i hi
    rw [ha.2 (σ i)] at h0
    exact h0
  intro T hT X
  obtain ⟨-, k0, hk0, cm0, hkk0⟩ := (hK.2 0 _ rfl).1 nA (fun j => .int (Int32.ofInt (τ i2 j)))
  obtain ⟨-, k1, hk1, cm1, hkk1⟩ := (hK.2 0 _ rfl).1 nA (fun j => .int (Int32.ofInt (σ i j)))
  obtain ⟨vm', X', step⟩ := X.arraycopy C.1 C.2.2.2.1 (C.2.2.2.2.1 _ hl) (C.2.2.2.2.1 _ q_n_arraycopyName) (C.2.2.2.2.1 _ q_s_arraycopyName) (C.2.2.2.2.1 _ q_i_J10) (src := b2 + i2) (dst := b + i) (cs := vp_cell G.2.1 (nA, .inl (fun j => Int32.ofInt (τ i2 j)))) (cd := vp_cell G.2.1 (nA, .inl (fun j => Int32.ofInt (σ i j)))) (srcPos := Int32.ofInt 0) (destPos := Int32.ofInt 0) (n := Int32.ofInt (nA : Int)) (by rw [hT]; exact hc0) (by rw [hT]; exact hc1)
    (fun _ h => by cases h) (fun _ h => by cases h) (fun h => by cases h) (fun h => by cases h) hk0 hk1 hkk0 hkk1 (by simp [refKind]) h10 h10 hn0
    (by rw [i32_of (inA ha), i32_of (inR_c 0 rfl)]; show ¬ _ > ((arrV G.2.1 nA (fun j => .int (Int32.ofInt (τ i2 j)))).slots.size : Int); rw [arrV_size]; omega)
    (by rw [i32_of (inA ha), i32_of (inR_c 0 rfl)]; show ¬ _ > ((arrV G.2.1 nA (fun j => .int (Int32.ofInt (σ i j)))).slots.size : Int); rw [arrV_size]; omega)
    (fun vm₁ _ j hj => by
      rw [en] at hj
      rw [e0]
      have e : (vp_cell G.2.1 (nA, .inl (fun j => Int32.ofInt (τ i2 j)))).slots.getD (0 + j) .null = .int (Int32.ofInt (τ i2 (0 + j))) := by
        show (arrV G.2.1 nA (fun j => .int (Int32.ofInt (τ i2 j)))).slots.getD _ _ = _
        rw [Array.getD_eq_getD_getElem?, arrV_read _ _ (by omega)]
        rfl
      refine ⟨?_, ?_⟩
      · rw [e]
        rfl
      · rw [e]
        exact trivial)
    (g := F0 m pc ls (vI (nA : Int) :: vI 0 :: .ref (b + i) :: vI 0 :: .ref (b2 + i2) :: st)) rfl (by show ls.size = c.maxLocals; rw [C.2.2.1, hL.1]) (rest := st) rfl (by rw [C.2.1]; exact hdg) hfr (by show 2 * 0 + _ + _ ≤ _; omega)
  have e1 : copied (vp_cell G.2.1 (nA, .inl (fun j => Int32.ofInt (τ i2 j)))) (vp_cell G.2.1 (nA, .inl (fun j => Int32.ofInt (σ i j)))) (Int32.ofInt 0) (Int32.ofInt 0) (Int32.ofInt (nA : Int)) = vp_cell G.2.1 (nA, .inl (fun j => Int32.ofInt (cpB σ i τ i2 nA i j))) := by
    have e2 := va_copied (fun z => .int z) G.2.1 G.2.1 (n0 := nA) (n1 := nA) (sp := 0) (dp := 0) (n := nA) (fun j => Int32.ofInt (τ i2 j)) (fun j => Int32.ofInt (σ i j)) (by omega)
    have e3 : copied (vp_cell G.2.1 (nA, .inl (fun j => Int32.ofInt (τ i2 j)))) (vp_cell G.2.1 (nA, .inl (fun j => Int32.ofInt (σ i j)))) (Int32.ofInt 0) (Int32.ofInt 0) (Int32.ofInt (nA : Int)) = vp_cell G.2.1 (nA, .inl (va_cpy (fun j => Int32.ofInt (τ i2 j)) (fun j => Int32.ofInt (σ i j)) 0 0 nA)) := by
      unfold copied
      rw [en, e0]
      exact e2
    rw [e3]
    congr 2
    congr 1
    funext j
    unfold va_cpy cpB
    by_cases hj : j < nA
    · rw [if_pos (by omega), if_pos ⟨rfl, hj⟩]
      simp
    · rw [if_neg (by omega), if_neg (by omega)]
  rw [e1] at X' step
  have hl2 : b + i < H.size := (Array.getElem?_eq_some_iff.mp hc1).1
  generalize hcl : vp_cell G.2.1 (nA, .inl (fun j => Int32.ofInt (cpB σ i τ i2 nA i j))) = cell at X' step
  have hheap : ((T.setVm vm').setCell (b + i) cell).heap = H.setIfInBounds (b + i) cell := by rw [← hT]; rfl
  have oq : ∀ q : Nat, q ≠ b + i → (H.setIfInBounds (b + i) cell)[q]? = H[q]? := fun q hq => by simp [Array.getElem?_setIfInBounds, Ne.symm hq]
  have hJ' : J (cpB σ i τ i2 nA) (H.setIfInBounds (b + i) cell) := by
    refine hJ.2 σ _ H _ hH (fun j hj => ?_) (by simp) (fun q hq => oq q (by omega))
    by_cases ej : j = i
    · subst ej
      rw [ha.2]
      show (H.setIfInBounds (b + j) cell)[b + j]? = _
      rw [← hcl]
      simp [Array.getElem?_setIfInBounds, hl2]
    · have e4 : cpB σ i τ i2 nA j = σ j := by
        funext q
        simp [cpB, ej]
      rw [e4]
      exact (hJ.1 σ H hH j hj).kept (oq (b + j) (by omega))
  obtain ⟨t, a1, b1⟩ := h _ (Rg_cpB hσ hτ) x hx (H.setIfInBounds (b + i) cell) _ ls hJ' ⟨by simp; exact hS.1, fun q g1 g2 => by
      rw [oq q (fun e => g2 (by rw [e]; exact hA _ ⟨by omega, by omega⟩))]
      exact hS.2.1 q g1 g2, fun q hq => by
      rcases List.mem_append.mp hq with h | h
      · exact hS.2.2 q h
      · obtain ⟨z, -, hz⟩ := List.mem_map.mp h
        rw [← hz]
        show A (b + i)
        exact hA _ ⟨by omega, by omega⟩⟩ hL _ hheap X'
  exact ⟨t, step t a1, b1⟩
end MORE
