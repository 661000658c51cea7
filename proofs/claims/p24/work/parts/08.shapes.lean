/-! rows by program: joins and loops, by the kinds of what they carry (I an int, J a long, B the state) -/
section SHAPES
variable {p : Program} {l : Launch} {e : Env} {R : Room} {s : State} {m : MethodId} {args : Array Value} {below : List Frame} {meth : Method} {c : Code}
variable {cc : ByteArray} {nL : Nat} {own : String}
variable {α β : Type} {A : Nat → Prop} {Q : α → State → Prop} {k n : Nat} {I : Heap → Prop} {pc : Nat} {L L' : List (Nat × Value)} {st : List Value} {kk : Option α}
def pf {α : Type} (σ : Blk) (c k : Nat) (v : Int) (K : Blk → Option α) : Option α := K (up2 σ c k v)
theorem s_putP (C : Cx p s m args meth c cc nL own) {G : Gt} (hK : KK G s) {lay : Lay} {N b i ci : Nat} {σ : Blk} {fs : (Nat → Int) → List Value} {Cn : String} {T : u_T} {ty0 : Nat → FieldType} {Nf ix : Nat} {a : Int} {J : Blk → Heap → Prop} {K : Blk → Option α} (hJ : Wd G lay N b J) (hA : ∀ q, Ab b N q → A q) (hσ : Rg σ) (ha : inR a) (hi : i < N) (ho : isO lay i ci fs) (hc : vwCl[ci]? = some (Cn, T, Nf)) (hin : ∀ w ∈ u_ws Cn T Nf, w ∈ lw_g) (hty : ∀ k, k < Nf → parseFieldDescriptor (T k).2.2.1 = some (ty0 k)) (hnm : ∀ a, a < Nf → ∀ b, b < Nf → a ≠ b → (T a).2.1 ≠ (T b).2.1) (f : Nat) (hf : f < Nf) (hw : Cond.fieldLink own ix (T f).1 (T f).2.1 (T f).2.2.1 ∈ lw_g) (hfin : (T f).2.2.2 = false) {ty : FieldType} (hd0 : parseFieldDescriptor (T f).2.2.1 = some ty) (hn : narrow ty (vI a) = vI a) (hfit : fits ty (vI a) = true) (hl : ∀ d, f < (fs d).length) (hset : ∀ (σ : Blk) (a : Int), fs (up2 σ i f a i) = (fs (σ i)).set f (vI a)) (hd : decode cc pc = .ok (.putfield ix, 3)) (h : ∀ σ', Rg σ' → Sim p l e R s m args below meth c nL A Q k n (J σ') (pc + 3) L st (K σ')) : Sim p l e R s m args below meth c nL A Q k n (J σ) pc L (vI a :: .ref (b + i) :: st) (pf σ i f a K) := s_put C hK hJ hA hi ho hc hin hty hnm f hf hw hfin hd0 hn hfit (hl _) (hset _ _) hd (h _ (Rg_up hσ ha))
theorem u_Book_0 {b : Nat} (σ : Blk) (a : Int) : fsBook b (up2 σ 0 0 a 0) = (fsBook b (σ 0)).set 0 (vI a) := rfl
theorem u_Book_1 {b : Nat} (σ : Blk) (a : Int) : fsBook b (up2 σ 0 1 a 0) = (fsBook b (σ 0)).set 1 (vI a) := rfl
theorem u_Book_2 {b : Nat} (σ : Blk) (a : Int) : fsBook b (up2 σ 0 2 a 0) = (fsBook b (σ 0)).set 2 (vI a) := rfl
theorem u_Row_0 {b r : Nat} (σ : Blk) (a : Int) : fsRow b r (up2 σ (8 + 3 * r) 0 a (8 + 3 * r)) = (fsRow b r (σ (8 + 3 * r))).set 0 (vI a) := by simp [fsRow, up2]
theorem u_Row_1 {b r : Nat} (σ : Blk) (a : Int) : fsRow b r (up2 σ (8 + 3 * r) 1 a (8 + 3 * r)) = (fsRow b r (σ (8 + 3 * r))).set 1 (vI a) := by simp [fsRow, up2]
theorem u_Row_2 {b r : Nat} (σ : Blk) (a : Int) : fsRow b r (up2 σ (8 + 3 * r) 2 a (8 + 3 * r)) = (fsRow b r (σ (8 + 3 * r))).set 2 (vI a) := by simp [fsRow, up2]
theorem u_Row_3 {b r : Nat} (σ : Blk) (a : Int) : fsRow b r (up2 σ (8 + 3 * r) 3 a (8 + 3 * r)) = (fsRow b r (σ (8 + 3 * r))).set 3 (vI a) := by simp [fsRow, up2]
theorem u_Row_4 {b r : Nat} (σ : Blk) (a : Int) : fsRow b r (up2 σ (8 + 3 * r) 4 a (8 + 3 * r)) = (fsRow b r (σ (8 + 3 * r))).set 4 (vI a) := by simp [fsRow, up2]
theorem u_Pad_1 {b : Nat} (σ : Blk) (a : Int) : fsPad b (up2 σ 0 1 a 0) = (fsPad b (σ 0)).set 1 (vI a) := rfl
theorem u_Pad_2 {b : Nat} (σ : Blk) (a : Int) : fsPad b (up2 σ 0 2 a 0) = (fsPad b (σ 0)).set 2 (vI a) := rfl
theorem u_Pad_6 {b : Nat} (σ : Blk) (a : Int) : fsPad b (up2 σ 0 6 a 0) = (fsPad b (σ 0)).set 6 (vI a) := rfl
theorem u_Pad_7 {b : Nat} (σ : Blk) (a : Int) : fsPad b (up2 σ 0 7 a 0) = (fsPad b (σ 0)).set 7 (vI a) := rfl
theorem u_Pad_8 {b : Nat} (σ : Blk) (a : Int) : fsPad b (up2 σ 0 8 a 0) = (fsPad b (σ 0)).set 8 (vI a) := rfl

theorem s_jp_ {K : Option α} {f : (Option α) → Option α} (pcB : Nat) (LB : List (Nat × Value)) (SB : List Value) (h1 : Sim p l e R s m args below meth c nL A Q k n I pcB LB SB K) (h2 : ∀ j : Option α, (Sim p l e R s m args below meth c nL A Q k n I pcB LB SB j) → Sim p l e R s m args below meth c nL A Q k n I pc L st (f j)) : Sim p l e R s m args below meth c nL A Q k n I pc L st (jp K f) := h2 K h1
theorem s_jp_B {K : Blk → Option α} {f : (Blk → Option α) → Option α} {J : Blk → Heap → Prop} (pcB : Nat) (LB : List (Nat × Value)) (SB : List Value) (h1 : ∀ (τ : Blk), Rg τ → Sim p l e R s m args below meth c nL A Q k n (J τ) pcB LB SB (K τ)) (h2 : ∀ j : Blk → Option α, (∀ (τ : Blk), Rg τ → Sim p l e R s m args below meth c nL A Q k n (J τ) pcB LB SB (j τ)) → Sim p l e R s m args below meth c nL A Q k n I pc L st (f j)) : Sim p l e R s m args below meth c nL A Q k n I pc L st (jp K f) := h2 K h1
theorem s_jp_I {K : Int → Option α} {f : (Int → Option α) → Option α} (pcB : Nat) (LB : Int → List (Nat × Value)) (SB : Int → List Value) (h1 : ∀ (y0 : Int), inR y0 → Sim p l e R s m args below meth c nL A Q k n I pcB (LB y0) (SB y0) (K y0)) (h2 : ∀ j : Int → Option α, (∀ (y0 : Int), inR y0 → Sim p l e R s m args below meth c nL A Q k n I pcB (LB y0) (SB y0) (j y0)) → Sim p l e R s m args below meth c nL A Q k n I pc L st (f j)) : Sim p l e R s m args below meth c nL A Q k n I pc L st (jp K f) := h2 K h1
theorem s_jp_IB {K : Int → Blk → Option α} {f : (Int → Blk → Option α) → Option α} {J : Blk → Heap → Prop} (pcB : Nat) (LB : Int → List (Nat × Value)) (SB : Int → List Value) (h1 : ∀ (y0 : Int) (τ : Blk), inR y0 → Rg τ → Sim p l e R s m args below meth c nL A Q k n (J τ) pcB (LB y0) (SB y0) (K y0 τ)) (h2 : ∀ j : Int → Blk → Option α, (∀ (y0 : Int) (τ : Blk), inR y0 → Rg τ → Sim p l e R s m args below meth c nL A Q k n (J τ) pcB (LB y0) (SB y0) (j y0 τ)) → Sim p l e R s m args below meth c nL A Q k n I pc L st (f j)) : Sim p l e R s m args below meth c nL A Q k n I pc L st (jp K f) := h2 K h1
theorem s_lp_I {F : Nat → Int → Option α} (pcB : Nat) (LB : Int → List (Nat × Value)) (h0 : ∀ (y0 : Int), (F 0 y0) = none) (hs : ∀ N : Nat, (∀ (y0 : Int), inR y0 → Sim p l e R s m args below meth c nL A Q k n I pcB (LB y0) [] (F N y0)) → ∀ (y0 : Int), inR y0 → Sim p l e R s m args below meth c nL A Q k n I pcB (LB y0) [] (F (N + 1) y0)) (N : Nat) : ∀ (y0 : Int), inR y0 → Sim p l e R s m args below meth c nL A Q k n I pcB (LB y0) [] (F N y0) := by
  induction N with
  | zero =>
    intros
    rw [h0]
    exact s_none
  | succ N ih => exact hs N ih
theorem s_lp_IB {F : Nat → Int → Blk → Option α} {J : Blk → Heap → Prop} (pcB : Nat) (LB : Int → List (Nat × Value)) (h0 : ∀ (y0 : Int) (τ : Blk), (F 0 y0 τ) = none) (hs : ∀ N : Nat, (∀ (y0 : Int) (τ : Blk), inR y0 → Rg τ → Sim p l e R s m args below meth c nL A Q k n (J τ) pcB (LB y0) [] (F N y0 τ)) → ∀ (y0 : Int) (τ : Blk), inR y0 → Rg τ → Sim p l e R s m args below meth c nL A Q k n (J τ) pcB (LB y0) [] (F (N + 1) y0 τ)) (N : Nat) : ∀ (y0 : Int) (τ : Blk), inR y0 → Rg τ → Sim p l e R s m args below meth c nL A Q k n (J τ) pcB (LB y0) [] (F N y0 τ) := by
  induction N with
  | zero =>
    intros
    rw [h0]
    exact s_none
  | succ N ih => exact hs N ih
theorem s_lp_II {F : Nat → Int → Int → Option α} (pcB : Nat) (LB : Int → Int → List (Nat × Value)) (h0 : ∀ (y0 : Int) (y1 : Int), (F 0 y0 y1) = none) (hs : ∀ N : Nat, (∀ (y0 : Int) (y1 : Int), inR y0 → inR y1 → Sim p l e R s m args below meth c nL A Q k n I pcB (LB y0 y1) [] (F N y0 y1)) → ∀ (y0 : Int) (y1 : Int), inR y0 → inR y1 → Sim p l e R s m args below meth c nL A Q k n I pcB (LB y0 y1) [] (F (N + 1) y0 y1)) (N : Nat) : ∀ (y0 : Int) (y1 : Int), inR y0 → inR y1 → Sim p l e R s m args below meth c nL A Q k n I pcB (LB y0 y1) [] (F N y0 y1) := by
  induction N with
  | zero =>
    intros
    rw [h0]
    exact s_none
  | succ N ih => exact hs N ih
theorem s_lp_IIB {F : Nat → Int → Int → Blk → Option α} {J : Blk → Heap → Prop} (pcB : Nat) (LB : Int → Int → List (Nat × Value)) (h0 : ∀ (y0 : Int) (y1 : Int) (τ : Blk), (F 0 y0 y1 τ) = none) (hs : ∀ N : Nat, (∀ (y0 : Int) (y1 : Int) (τ : Blk), inR y0 → inR y1 → Rg τ → Sim p l e R s m args below meth c nL A Q k n (J τ) pcB (LB y0 y1) [] (F N y0 y1 τ)) → ∀ (y0 : Int) (y1 : Int) (τ : Blk), inR y0 → inR y1 → Rg τ → Sim p l e R s m args below meth c nL A Q k n (J τ) pcB (LB y0 y1) [] (F (N + 1) y0 y1 τ)) (N : Nat) : ∀ (y0 : Int) (y1 : Int) (τ : Blk), inR y0 → inR y1 → Rg τ → Sim p l e R s m args below meth c nL A Q k n (J τ) pcB (LB y0 y1) [] (F N y0 y1 τ) := by
  induction N with
  | zero =>
    intros
    rw [h0]
    exact s_none
  | succ N ih => exact hs N ih
theorem s_lp_III {F : Nat → Int → Int → Int → Option α} (pcB : Nat) (LB : Int → Int → Int → List (Nat × Value)) (h0 : ∀ (y0 : Int) (y1 : Int) (y2 : Int), (F 0 y0 y1 y2) = none) (hs : ∀ N : Nat, (∀ (y0 : Int) (y1 : Int) (y2 : Int), inR y0 → inR y1 → inR y2 → Sim p l e R s m args below meth c nL A Q k n I pcB (LB y0 y1 y2) [] (F N y0 y1 y2)) → ∀ (y0 : Int) (y1 : Int) (y2 : Int), inR y0 → inR y1 → inR y2 → Sim p l e R s m args below meth c nL A Q k n I pcB (LB y0 y1 y2) [] (F (N + 1) y0 y1 y2)) (N : Nat) : ∀ (y0 : Int) (y1 : Int) (y2 : Int), inR y0 → inR y1 → inR y2 → Sim p l e R s m args below meth c nL A Q k n I pcB (LB y0 y1 y2) [] (F N y0 y1 y2) := by
  induction N with
  | zero =>
    intros
    rw [h0]
    exact s_none
  | succ N ih => exact hs N ih
end SHAPES
theorem dd_yX0_copyFrom : yX0_copyFrom.cls ≠ "java/lang/invoke/MethodHandle" ∧ yX0_copyFrom.cls ≠ "java/lang/invoke/VarHandle" ∧ (parseMethodDescriptor yX0_copyFrom.desc).map (fun d => d.parameters.length) = some 1 := by decide +kernel
theorem dd_yX0_rowOf : yX0_rowOf.cls ≠ "java/lang/invoke/MethodHandle" ∧ yX0_rowOf.cls ≠ "java/lang/invoke/VarHandle" ∧ (parseMethodDescriptor yX0_rowOf.desc).map (fun d => d.parameters.length) = some 1 := by decide +kernel
theorem dd_yX0_layRow : yX0_layRow.cls ≠ "java/lang/invoke/MethodHandle" ∧ yX0_layRow.cls ≠ "java/lang/invoke/VarHandle" ∧ (parseMethodDescriptor yX0_layRow.desc).map (fun d => d.parameters.length) = some 2 := by decide +kernel
theorem dd_yX0_addRow : yX0_addRow.cls ≠ "java/lang/invoke/MethodHandle" ∧ yX0_addRow.cls ≠ "java/lang/invoke/VarHandle" ∧ (parseMethodDescriptor yX0_addRow.desc).map (fun d => d.parameters.length) = some 1 := by decide +kernel
theorem dd_yX0_layNew : yX0_layNew.cls ≠ "java/lang/invoke/MethodHandle" ∧ yX0_layNew.cls ≠ "java/lang/invoke/VarHandle" ∧ (parseMethodDescriptor yX0_layNew.desc).map (fun d => d.parameters.length) = some 1 := by decide +kernel
theorem dd_yX0_layAgain : yX0_layAgain.cls ≠ "java/lang/invoke/MethodHandle" ∧ yX0_layAgain.cls ≠ "java/lang/invoke/VarHandle" ∧ (parseMethodDescriptor yX0_layAgain.desc).map (fun d => d.parameters.length) = some 1 := by decide +kernel
theorem dd_yX0_layHeadAgain : yX0_layHeadAgain.cls ≠ "java/lang/invoke/MethodHandle" ∧ yX0_layHeadAgain.cls ≠ "java/lang/invoke/VarHandle" ∧ (parseMethodDescriptor yX0_layHeadAgain.desc).map (fun d => d.parameters.length) = some 1 := by decide +kernel
theorem dd_yX0_layPieces : yX0_layPieces.cls ≠ "java/lang/invoke/MethodHandle" ∧ yX0_layPieces.cls ≠ "java/lang/invoke/VarHandle" ∧ (parseMethodDescriptor yX0_layPieces.desc).map (fun d => d.parameters.length) = some 1 := by decide +kernel
theorem dd_yX0_liftPieces : yX0_liftPieces.cls ≠ "java/lang/invoke/MethodHandle" ∧ yX0_liftPieces.cls ≠ "java/lang/invoke/VarHandle" ∧ (parseMethodDescriptor yX0_liftPieces.desc).map (fun d => d.parameters.length) = some 1 := by decide +kernel
theorem dd_yX0_headLetters : yX0_headLetters.cls ≠ "java/lang/invoke/MethodHandle" ∧ yX0_headLetters.cls ≠ "java/lang/invoke/VarHandle" ∧ (parseMethodDescriptor yX0_headLetters.desc).map (fun d => d.parameters.length) = some 1 := by decide +kernel
theorem dd_yX0_headCells : yX0_headCells.cls ≠ "java/lang/invoke/MethodHandle" ∧ yX0_headCells.cls ≠ "java/lang/invoke/VarHandle" ∧ (parseMethodDescriptor yX0_headCells.desc).map (fun d => d.parameters.length) = some 1 := by decide +kernel
theorem dd_yX0_removeRow : yX0_removeRow.cls ≠ "java/lang/invoke/MethodHandle" ∧ yX0_removeRow.cls ≠ "java/lang/invoke/VarHandle" ∧ (parseMethodDescriptor yX0_removeRow.desc).map (fun d => d.parameters.length) = some 1 := by decide +kernel
theorem dd_yX0_packAll : yX0_packAll.cls ≠ "java/lang/invoke/MethodHandle" ∧ yX0_packAll.cls ≠ "java/lang/invoke/VarHandle" ∧ (parseMethodDescriptor yX0_packAll.desc).map (fun d => d.parameters.length) = some 0 := by decide +kernel
theorem dd_yX0_cellsOf : yX0_cellsOf.cls ≠ "java/lang/invoke/MethodHandle" ∧ yX0_cellsOf.cls ≠ "java/lang/invoke/VarHandle" ∧ (parseMethodDescriptor yX0_cellsOf.desc).map (fun d => d.parameters.length) = some 1 := by decide +kernel
theorem dd_yX0_costInAll : yX0_costInAll.cls ≠ "java/lang/invoke/MethodHandle" ∧ yX0_costInAll.cls ≠ "java/lang/invoke/VarHandle" ∧ (parseMethodDescriptor yX0_costInAll.desc).map (fun d => d.parameters.length) = some 0 := by decide +kernel
theorem dd_yX0_greatestCost : yX0_greatestCost.cls ≠ "java/lang/invoke/MethodHandle" ∧ yX0_greatestCost.cls ≠ "java/lang/invoke/VarHandle" ∧ (parseMethodDescriptor yX0_greatestCost.desc).map (fun d => d.parameters.length) = some 0 := by decide +kernel
theorem dd_yX0_lettersInAll : yX0_lettersInAll.cls ≠ "java/lang/invoke/MethodHandle" ∧ yX0_lettersInAll.cls ≠ "java/lang/invoke/VarHandle" ∧ (parseMethodDescriptor yX0_lettersInAll.desc).map (fun d => d.parameters.length) = some 0 := by decide +kernel
theorem dd_yX2_read : yX2_read.cls ≠ "java/lang/invoke/MethodHandle" ∧ yX2_read.cls ≠ "java/lang/invoke/VarHandle" ∧ (parseMethodDescriptor yX2_read.desc).map (fun d => d.parameters.length) = some 0 := by decide +kernel
theorem dd_yX2_awaitKey : yX2_awaitKey.cls ≠ "java/lang/invoke/MethodHandle" ∧ yX2_awaitKey.cls ≠ "java/lang/invoke/VarHandle" ∧ (parseMethodDescriptor yX2_awaitKey.desc).map (fun d => d.parameters.length) = some 0 := by decide +kernel
theorem dd_yX2_readInKey : yX2_readInKey.cls ≠ "java/lang/invoke/MethodHandle" ∧ yX2_readInKey.cls ≠ "java/lang/invoke/VarHandle" ∧ (parseMethodDescriptor yX2_readInKey.desc).map (fun d => d.parameters.length) = some 2 := by decide +kernel
theorem dd_yX2_startText : yX2_startText.cls ≠ "java/lang/invoke/MethodHandle" ∧ yX2_startText.cls ≠ "java/lang/invoke/VarHandle" ∧ (parseMethodDescriptor yX2_startText.desc).map (fun d => d.parameters.length) = some 1 := by decide +kernel
theorem dd_yX2_readInText : yX2_readInText.cls ≠ "java/lang/invoke/MethodHandle" ∧ yX2_readInText.cls ≠ "java/lang/invoke/VarHandle" ∧ (parseMethodDescriptor yX2_readInText.desc).map (fun d => d.parameters.length) = some 1 := by decide +kernel
theorem dd_yX3_copyFrom : yX3_copyFrom.cls ≠ "java/lang/invoke/MethodHandle" ∧ yX3_copyFrom.cls ≠ "java/lang/invoke/VarHandle" ∧ (parseMethodDescriptor yX3_copyFrom.desc).map (fun d => d.parameters.length) = some 1 := by decide +kernel
theorem dd_yX3_clear : yX3_clear.cls ≠ "java/lang/invoke/MethodHandle" ∧ yX3_clear.cls ≠ "java/lang/invoke/VarHandle" ∧ (parseMethodDescriptor yX3_clear.desc).map (fun d => d.parameters.length) = some 0 := by decide +kernel
theorem dd_yX3_hasRoom : yX3_hasRoom.cls ≠ "java/lang/invoke/MethodHandle" ∧ yX3_hasRoom.cls ≠ "java/lang/invoke/VarHandle" ∧ (parseMethodDescriptor yX3_hasRoom.desc).map (fun d => d.parameters.length) = some 2 := by decide +kernel
theorem dd_yX3_occupy : yX3_occupy.cls ≠ "java/lang/invoke/MethodHandle" ∧ yX3_occupy.cls ≠ "java/lang/invoke/VarHandle" ∧ (parseMethodDescriptor yX3_occupy.desc).map (fun d => d.parameters.length) = some 4 := by decide +kernel
theorem dd_yX3_vacate : yX3_vacate.cls ≠ "java/lang/invoke/MethodHandle" ∧ yX3_vacate.cls ≠ "java/lang/invoke/VarHandle" ∧ (parseMethodDescriptor yX3_vacate.desc).map (fun d => d.parameters.length) = some 1 := by decide +kernel
theorem dd_yX3_place : yX3_place.cls ≠ "java/lang/invoke/MethodHandle" ∧ yX3_place.cls ≠ "java/lang/invoke/VarHandle" ∧ (parseMethodDescriptor yX3_place.desc).map (fun d => d.parameters.length) = some 3 := by decide +kernel
theorem dd_yX3_lowestGap : yX3_lowestGap.cls ≠ "java/lang/invoke/MethodHandle" ∧ yX3_lowestGap.cls ≠ "java/lang/invoke/VarHandle" ∧ (parseMethodDescriptor yX3_lowestGap.desc).map (fun d => d.parameters.length) = some 1 := by decide +kernel
theorem dd_yX3_slotsOf : yX3_slotsOf.cls ≠ "java/lang/invoke/MethodHandle" ∧ yX3_slotsOf.cls ≠ "java/lang/invoke/VarHandle" ∧ (parseMethodDescriptor yX3_slotsOf.desc).map (fun d => d.parameters.length) = some 1 := by decide +kernel
theorem dd_yX3_thingsOn : yX3_thingsOn.cls ≠ "java/lang/invoke/MethodHandle" ∧ yX3_thingsOn.cls ≠ "java/lang/invoke/VarHandle" ∧ (parseMethodDescriptor yX3_thingsOn.desc).map (fun d => d.parameters.length) = some 2 := by decide +kernel
theorem dd_yX3_thingsInAll : yX3_thingsInAll.cls ≠ "java/lang/invoke/MethodHandle" ∧ yX3_thingsInAll.cls ≠ "java/lang/invoke/VarHandle" ∧ (parseMethodDescriptor yX3_thingsInAll.desc).map (fun d => d.parameters.length) = some 1 := by decide +kernel
theorem dd_yX3_pagesInUse : yX3_pagesInUse.cls ≠ "java/lang/invoke/MethodHandle" ∧ yX3_pagesInUse.cls ≠ "java/lang/invoke/VarHandle" ∧ (parseMethodDescriptor yX3_pagesInUse.desc).map (fun d => d.parameters.length) = some 0 := by decide +kernel
theorem dd_yX3_freeInAll : yX3_freeInAll.cls ≠ "java/lang/invoke/MethodHandle" ∧ yX3_freeInAll.cls ≠ "java/lang/invoke/VarHandle" ∧ (parseMethodDescriptor yX3_freeInAll.desc).map (fun d => d.parameters.length) = some 0 := by decide +kernel
theorem dd_yX7_copyFrom : yX7_copyFrom.cls ≠ "java/lang/invoke/MethodHandle" ∧ yX7_copyFrom.cls ≠ "java/lang/invoke/VarHandle" ∧ (parseMethodDescriptor yX7_copyFrom.desc).map (fun d => d.parameters.length) = some 1 := by decide +kernel
theorem dd_yX7_hasMoved : yX7_hasMoved.cls ≠ "java/lang/invoke/MethodHandle" ∧ yX7_hasMoved.cls ≠ "java/lang/invoke/VarHandle" ∧ (parseMethodDescriptor yX7_hasMoved.desc).map (fun d => d.parameters.length) = some 0 := by decide +kernel
theorem dd_yX7_cost : yX7_cost.cls ≠ "java/lang/invoke/MethodHandle" ∧ yX7_cost.cls ≠ "java/lang/invoke/VarHandle" ∧ (parseMethodDescriptor yX7_cost.desc).map (fun d => d.parameters.length) = some 0 := by decide +kernel
theorem dd_yX4_at : yX4_at.cls ≠ "java/lang/invoke/MethodHandle" ∧ yX4_at.cls ≠ "java/lang/invoke/VarHandle" ∧ (parseMethodDescriptor yX4_at.desc).map (fun d => d.parameters.length) = some 2 := by decide +kernel
theorem dd_yX4_store : yX4_store.cls ≠ "java/lang/invoke/MethodHandle" ∧ yX4_store.cls ≠ "java/lang/invoke/VarHandle" ∧ (parseMethodDescriptor yX4_store.desc).map (fun d => d.parameters.length) = some 3 := by decide +kernel
theorem dd_yJ7_fill_53178 : yJ7_fill_53178.cls ≠ "java/lang/invoke/MethodHandle" ∧ yJ7_fill_53178.cls ≠ "java/lang/invoke/VarHandle" ∧ (parseMethodDescriptor yJ7_fill_53178.desc).map (fun d => d.parameters.length) = some 2 := by decide +kernel
theorem dd_yL_low : yL_low.cls ≠ "java/lang/invoke/MethodHandle" ∧ yL_low.cls ≠ "java/lang/invoke/VarHandle" ∧ (parseMethodDescriptor yL_low.desc).map (fun d => d.parameters.length) = some 2 := by decide +kernel
theorem dd_yL_cells : yL_cells.cls ≠ "java/lang/invoke/MethodHandle" ∧ yL_cells.cls ≠ "java/lang/invoke/VarHandle" ∧ (parseMethodDescriptor yL_cells.desc).map (fun d => d.parameters.length) = some 1 := by decide +kernel
theorem dd_yL_free : yL_free.cls ≠ "java/lang/invoke/MethodHandle" ∧ yL_free.cls ≠ "java/lang/invoke/VarHandle" ∧ (parseMethodDescriptor yL_free.desc).map (fun d => d.parameters.length) = some 3 := by decide +kernel
theorem dd_yL_at : yL_at.cls ≠ "java/lang/invoke/MethodHandle" ∧ yL_at.cls ≠ "java/lang/invoke/VarHandle" ∧ (parseMethodDescriptor yL_at.desc).map (fun d => d.parameters.length) = some 3 := by decide +kernel
theorem dd_yL_find : yL_find.cls ≠ "java/lang/invoke/MethodHandle" ∧ yL_find.cls ≠ "java/lang/invoke/VarHandle" ∧ (parseMethodDescriptor yL_find.desc).map (fun d => d.parameters.length) = some 5 := by decide +kernel
theorem dd_yL_add : yL_add.cls ≠ "java/lang/invoke/MethodHandle" ∧ yL_add.cls ≠ "java/lang/invoke/VarHandle" ∧ (parseMethodDescriptor yL_add.desc).map (fun d => d.parameters.length) = some 7 := by decide +kernel
theorem dd_yL_drop : yL_drop.cls ≠ "java/lang/invoke/MethodHandle" ∧ yL_drop.cls ≠ "java/lang/invoke/VarHandle" ∧ (parseMethodDescriptor yL_drop.desc).map (fun d => d.parameters.length) = some 3 := by decide +kernel
theorem dd_yL_room : yL_room.cls ≠ "java/lang/invoke/MethodHandle" ∧ yL_room.cls ≠ "java/lang/invoke/VarHandle" ∧ (parseMethodDescriptor yL_room.desc).map (fun d => d.parameters.length) = some 3 := by decide +kernel
theorem dd_yL_write : yL_write.cls ≠ "java/lang/invoke/MethodHandle" ∧ yL_write.cls ≠ "java/lang/invoke/VarHandle" ∧ (parseMethodDescriptor yL_write.desc).map (fun d => d.parameters.length) = some 6 := by decide +kernel
theorem dd_yL_rowOf : yL_rowOf.cls ≠ "java/lang/invoke/MethodHandle" ∧ yL_rowOf.cls ≠ "java/lang/invoke/VarHandle" ∧ (parseMethodDescriptor yL_rowOf.desc).map (fun d => d.parameters.length) = some 2 := by decide +kernel
theorem dd_yL_pack : yL_pack.cls ≠ "java/lang/invoke/MethodHandle" ∧ yL_pack.cls ≠ "java/lang/invoke/VarHandle" ∧ (parseMethodDescriptor yL_pack.desc).map (fun d => d.parameters.length) = some 3 := by decide +kernel
theorem dd_yL_pieces : yL_pieces.cls ≠ "java/lang/invoke/MethodHandle" ∧ yL_pieces.cls ≠ "java/lang/invoke/VarHandle" ∧ (parseMethodDescriptor yL_pieces.desc).map (fun d => d.parameters.length) = some 3 := by decide +kernel
theorem dd_yL_cost : yL_cost.cls ≠ "java/lang/invoke/MethodHandle" ∧ yL_cost.cls ≠ "java/lang/invoke/VarHandle" ∧ (parseMethodDescriptor yL_cost.desc).map (fun d => d.parameters.length) = some 4 := by decide +kernel
theorem dd_yL_costs : yL_costs.cls ≠ "java/lang/invoke/MethodHandle" ∧ yL_costs.cls ≠ "java/lang/invoke/VarHandle" ∧ (parseMethodDescriptor yL_costs.desc).map (fun d => d.parameters.length) = some 3 := by decide +kernel
theorem dd_yL_kinds : yL_kinds.cls ≠ "java/lang/invoke/MethodHandle" ∧ yL_kinds.cls ≠ "java/lang/invoke/VarHandle" ∧ (parseMethodDescriptor yL_kinds.desc).map (fun d => d.parameters.length) = some 3 := by decide +kernel
theorem dd_yL_letter : yL_letter.cls ≠ "java/lang/invoke/MethodHandle" ∧ yL_letter.cls ≠ "java/lang/invoke/VarHandle" ∧ (parseMethodDescriptor yL_letter.desc).map (fun d => d.parameters.length) = some 3 := by decide +kernel
theorem dd_yL_copy : yL_copy.cls ≠ "java/lang/invoke/MethodHandle" ∧ yL_copy.cls ≠ "java/lang/invoke/VarHandle" ∧ (parseMethodDescriptor yL_copy.desc).map (fun d => d.parameters.length) = some 6 := by decide +kernel
theorem dd_yJ9_floorMod_7cf53 : yJ9_floorMod_7cf53.cls ≠ "java/lang/invoke/MethodHandle" ∧ yJ9_floorMod_7cf53.cls ≠ "java/lang/invoke/VarHandle" ∧ (parseMethodDescriptor yJ9_floorMod_7cf53.desc).map (fun d => d.parameters.length) = some 2 := by decide +kernel
