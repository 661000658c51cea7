def lk {α : Type} (a b : Nat) (K : Option α) : Option α := if a < b then K else none
/-! joins and loops that carry the state of the whole object (T) -/
section USHAPES
variable {p : Program} {l : Launch} {e : Env} {R : Room} {s : State} {m : MethodId} {args : Array Value} {below : List Frame} {meth : Method} {c : Code}
variable {cc : ByteArray} {nL : Nat} {own : String}
variable {α β : Type} {A : Nat → Prop} {Q : α → State → Prop} {k n : Nat} {I : Heap → Prop} {pc : Nat} {L L' : List (Nat × Value)} {st : List Value} {kk : Option α}

theorem s_lk {a b : Nat} (h : a < b → Sim p l e R s m args below meth c nL A Q k n I pc L st kk) : Sim p l e R s m args below meth c nL A Q k n I pc L st (lk a b kk) := by
  unfold lk
  split
  · exact h (by assumption)
  · exact s_none
theorem s_ne {a b : Nat} (h : a ≠ b → Sim p l e R s m args below meth c nL A Q k n I pc L st kk) : Sim p l e R s m args below meth c nL A Q k n I pc L st (ne a b kk) := by
  unfold ne
  split
  · exact s_none
  · exact h (by assumption)
theorem u_jp_ {K : Option α} {f : (Option α) → Option α} (kJ nJ pcB : Nat) (LB : List (Nat × Value)) (SB : List Value) (h1 : Sim p l e R s m args below meth c nL A Q kJ nJ I pcB LB SB K) (h2 : ∀ j : Option α, (Sim p l e R s m args below meth c nL A Q kJ nJ I pcB LB SB j) → Sim p l e R s m args below meth c nL A Q k n I pc L st (f j)) : Sim p l e R s m args below meth c nL A Q k n I pc L st (jp K f) := h2 K h1
theorem u_jp_I {K : Int → Option α} {f : (Int → Option α) → Option α} (kJ nJ pcB : Nat) (LB : Int → List (Nat × Value)) (SB : Int → List Value) (h1 : ∀ (y0 : Int), inR y0 → Sim p l e R s m args below meth c nL A Q kJ nJ I pcB (LB y0) (SB y0) (K y0)) (h2 : ∀ j : Int → Option α, (∀ (y0 : Int), inR y0 → Sim p l e R s m args below meth c nL A Q kJ nJ I pcB (LB y0) (SB y0) (j y0)) → Sim p l e R s m args below meth c nL A Q k n I pc L st (f j)) : Sim p l e R s m args below meth c nL A Q k n I pc L st (jp K f) := h2 K h1
theorem u_jp_II {K : Int → Int → Option α} {f : (Int → Int → Option α) → Option α} (kJ nJ pcB : Nat) (LB : Int → Int → List (Nat × Value)) (SB : Int → Int → List Value) (h1 : ∀ (y0 : Int) (y1 : Int), inR y0 → inR y1 → Sim p l e R s m args below meth c nL A Q kJ nJ I pcB (LB y0 y1) (SB y0 y1) (K y0 y1)) (h2 : ∀ j : Int → Int → Option α, (∀ (y0 : Int) (y1 : Int), inR y0 → inR y1 → Sim p l e R s m args below meth c nL A Q kJ nJ I pcB (LB y0 y1) (SB y0 y1) (j y0 y1)) → Sim p l e R s m args below meth c nL A Q k n I pc L st (f j)) : Sim p l e R s m args below meth c nL A Q k n I pc L st (jp K f) := h2 K h1
theorem u_jp_IT {K : Int → Blk → (Nat → Blk) → Nat → Option α} {f : (Int → Blk → (Nat → Blk) → Nat → Option α) → Option α} {V : Blk → (Nat → Blk) → Nat → Heap → Prop} (kJ nJ pcB : Nat) (LB : Int → List (Nat × Value)) (SB : Int → List Value) (h1 : ∀ (y0 : Int) (τ : Blk) (τB : Nat → Blk) (τn : Nat), inR y0 → Rg τ → RgB τB → 2 ≤ τn → Sim p l e R s m args below meth c nL A Q kJ nJ (V τ τB τn) pcB (LB y0) (SB y0) (K y0 τ τB τn)) (h2 : ∀ j : Int → Blk → (Nat → Blk) → Nat → Option α, (∀ (y0 : Int) (τ : Blk) (τB : Nat → Blk) (τn : Nat), inR y0 → Rg τ → RgB τB → 2 ≤ τn → Sim p l e R s m args below meth c nL A Q kJ nJ (V τ τB τn) pcB (LB y0) (SB y0) (j y0 τ τB τn)) → Sim p l e R s m args below meth c nL A Q k n I pc L st (f j)) : Sim p l e R s m args below meth c nL A Q k n I pc L st (jp K f) := h2 K h1
theorem u_jp_T {K : Blk → (Nat → Blk) → Nat → Option α} {f : (Blk → (Nat → Blk) → Nat → Option α) → Option α} {V : Blk → (Nat → Blk) → Nat → Heap → Prop} (kJ nJ pcB : Nat) (LB : List (Nat × Value)) (SB : List Value) (h1 : ∀ (τ : Blk) (τB : Nat → Blk) (τn : Nat), Rg τ → RgB τB → 2 ≤ τn → Sim p l e R s m args below meth c nL A Q kJ nJ (V τ τB τn) pcB LB SB (K τ τB τn)) (h2 : ∀ j : Blk → (Nat → Blk) → Nat → Option α, (∀ (τ : Blk) (τB : Nat → Blk) (τn : Nat), Rg τ → RgB τB → 2 ≤ τn → Sim p l e R s m args below meth c nL A Q kJ nJ (V τ τB τn) pcB LB SB (j τ τB τn)) → Sim p l e R s m args below meth c nL A Q k n I pc L st (f j)) : Sim p l e R s m args below meth c nL A Q k n I pc L st (jp K f) := h2 K h1
theorem u_lp_II {F : Nat → Int → Int → Option α} (pcB : Nat) (LB : Int → Int → List (Nat × Value)) (h0 : ∀ (y0 : Int) (y1 : Int), (F 0 y0 y1) = none) (hs : ∀ N : Nat, (∀ (y0 : Int) (y1 : Int), inR y0 → inR y1 → Sim p l e R s m args below meth c nL A Q k n I pcB (LB y0 y1) [] (F N y0 y1)) → ∀ (y0 : Int) (y1 : Int), inR y0 → inR y1 → Sim p l e R s m args below meth c nL A Q k n I pcB (LB y0 y1) [] (F (N + 1) y0 y1)) (N : Nat) : ∀ (y0 : Int) (y1 : Int), inR y0 → inR y1 → Sim p l e R s m args below meth c nL A Q k n I pcB (LB y0 y1) [] (F N y0 y1) := by
  induction N with
  | zero =>
    intros
    rw [h0]
    exact s_none
  | succ N ih => exact hs N ih
theorem u_lp_IIIT {F : Nat → Int → Int → Int → Blk → (Nat → Blk) → Nat → Option α} {V : Blk → (Nat → Blk) → Nat → Heap → Prop} (pcB : Nat) (LB : Int → Int → Int → List (Nat × Value)) (h0 : ∀ (y0 : Int) (y1 : Int) (y2 : Int) (τ : Blk) (τB : Nat → Blk) (τn : Nat), (F 0 y0 y1 y2 τ τB τn) = none) (hs : ∀ N : Nat, (∀ (y0 : Int) (y1 : Int) (y2 : Int) (τ : Blk) (τB : Nat → Blk) (τn : Nat), inR y0 → inR y1 → inR y2 → Rg τ → RgB τB → 2 ≤ τn → Sim p l e R s m args below meth c nL A Q k n (V τ τB τn) pcB (LB y0 y1 y2) [] (F N y0 y1 y2 τ τB τn)) → ∀ (y0 : Int) (y1 : Int) (y2 : Int) (τ : Blk) (τB : Nat → Blk) (τn : Nat), inR y0 → inR y1 → inR y2 → Rg τ → RgB τB → 2 ≤ τn → Sim p l e R s m args below meth c nL A Q k n (V τ τB τn) pcB (LB y0 y1 y2) [] (F (N + 1) y0 y1 y2 τ τB τn)) (N : Nat) : ∀ (y0 : Int) (y1 : Int) (y2 : Int) (τ : Blk) (τB : Nat → Blk) (τn : Nat), inR y0 → inR y1 → inR y2 → Rg τ → RgB τB → 2 ≤ τn → Sim p l e R s m args below meth c nL A Q k n (V τ τB τn) pcB (LB y0 y1 y2) [] (F N y0 y1 y2 τ τB τn) := by
  induction N with
  | zero =>
    intros
    rw [h0]
    exact s_none
  | succ N ih => exact hs N ih
theorem u_lp_IT {F : Nat → Int → Blk → (Nat → Blk) → Nat → Option α} {V : Blk → (Nat → Blk) → Nat → Heap → Prop} (pcB : Nat) (LB : Int → List (Nat × Value)) (h0 : ∀ (y0 : Int) (τ : Blk) (τB : Nat → Blk) (τn : Nat), (F 0 y0 τ τB τn) = none) (hs : ∀ N : Nat, (∀ (y0 : Int) (τ : Blk) (τB : Nat → Blk) (τn : Nat), inR y0 → Rg τ → RgB τB → 2 ≤ τn → Sim p l e R s m args below meth c nL A Q k n (V τ τB τn) pcB (LB y0) [] (F N y0 τ τB τn)) → ∀ (y0 : Int) (τ : Blk) (τB : Nat → Blk) (τn : Nat), inR y0 → Rg τ → RgB τB → 2 ≤ τn → Sim p l e R s m args below meth c nL A Q k n (V τ τB τn) pcB (LB y0) [] (F (N + 1) y0 τ τB τn)) (N : Nat) : ∀ (y0 : Int) (τ : Blk) (τB : Nat → Blk) (τn : Nat), inR y0 → Rg τ → RgB τB → 2 ≤ τn → Sim p l e R s m args below meth c nL A Q k n (V τ τB τn) pcB (LB y0) [] (F N y0 τ τB τn) := by
  induction N with
  | zero =>
    intros
    rw [h0]
    exact s_none
  | succ N ih => exact hs N ih
end USHAPES
theorem dd_yX1_record : yX1_record.cls ≠ "java/lang/invoke/MethodHandle" ∧ yX1_record.cls ≠ "java/lang/invoke/VarHandle" ∧ (parseMethodDescriptor yX1_record.desc).map (fun d => d.parameters.length) = some 1 := by decide +kernel
theorem dd_yX4_setHead : yX4_setHead.cls ≠ "java/lang/invoke/MethodHandle" ∧ yX4_setHead.cls ≠ "java/lang/invoke/VarHandle" ∧ (parseMethodDescriptor yX4_setHead.desc).map (fun d => d.parameters.length) = some 1 := by decide +kernel
theorem dd_yX4_setPiece : yX4_setPiece.cls ≠ "java/lang/invoke/MethodHandle" ∧ yX4_setPiece.cls ≠ "java/lang/invoke/VarHandle" ∧ (parseMethodDescriptor yX4_setPiece.desc).map (fun d => d.parameters.length) = some 1 := by decide +kernel
theorem dd_yX4_set : yX4_set.cls ≠ "java/lang/invoke/MethodHandle" ∧ yX4_set.cls ≠ "java/lang/invoke/VarHandle" ∧ (parseMethodDescriptor yX4_set.desc).map (fun d => d.parameters.length) = some 2 := by decide +kernel
theorem dd_yX4_takeTrial : yX4_takeTrial.cls ≠ "java/lang/invoke/MethodHandle" ∧ yX4_takeTrial.cls ≠ "java/lang/invoke/VarHandle" ∧ (parseMethodDescriptor yX4_takeTrial.desc).map (fun d => d.parameters.length) = some 0 := by decide +kernel
theorem dd_yX4_writePadRow : yX4_writePadRow.cls ≠ "java/lang/invoke/MethodHandle" ∧ yX4_writePadRow.cls ≠ "java/lang/invoke/VarHandle" ∧ (parseMethodDescriptor yX4_writePadRow.desc).map (fun d => d.parameters.length) = some 1 := by decide +kernel
theorem dd_yX4_write : yX4_write.cls ≠ "java/lang/invoke/MethodHandle" ∧ yX4_write.cls ≠ "java/lang/invoke/VarHandle" ∧ (parseMethodDescriptor yX4_write.desc).map (fun d => d.parameters.length) = some 0 := by decide +kernel
theorem dd_yX4_append : yX4_append.cls ≠ "java/lang/invoke/MethodHandle" ∧ yX4_append.cls ≠ "java/lang/invoke/VarHandle" ∧ (parseMethodDescriptor yX4_append.desc).map (fun d => d.parameters.length) = some 2 := by decide +kernel
theorem dd_yX4_delete : yX4_delete.cls ≠ "java/lang/invoke/MethodHandle" ∧ yX4_delete.cls ≠ "java/lang/invoke/VarHandle" ∧ (parseMethodDescriptor yX4_delete.desc).map (fun d => d.parameters.length) = some 1 := by decide +kernel
theorem dd_yX4_tryPacking : yX4_tryPacking.cls ≠ "java/lang/invoke/MethodHandle" ∧ yX4_tryPacking.cls ≠ "java/lang/invoke/VarHandle" ∧ (parseMethodDescriptor yX4_tryPacking.desc).map (fun d => d.parameters.length) = some 1 := by decide +kernel
theorem dd_yX4_pack : yX4_pack.cls ≠ "java/lang/invoke/MethodHandle" ∧ yX4_pack.cls ≠ "java/lang/invoke/VarHandle" ∧ (parseMethodDescriptor yX4_pack.desc).map (fun d => d.parameters.length) = some 0 := by decide +kernel
theorem dd_yX4_row : yX4_row.cls ≠ "java/lang/invoke/MethodHandle" ∧ yX4_row.cls ≠ "java/lang/invoke/VarHandle" ∧ (parseMethodDescriptor yX4_row.desc).map (fun d => d.parameters.length) = some 2 := by decide +kernel
theorem dd_yX4_letter : yX4_letter.cls ≠ "java/lang/invoke/MethodHandle" ∧ yX4_letter.cls ≠ "java/lang/invoke/VarHandle" ∧ (parseMethodDescriptor yX4_letter.desc).map (fun d => d.parameters.length) = some 2 := by decide +kernel
theorem dd_yX4_piece : yX4_piece.cls ≠ "java/lang/invoke/MethodHandle" ∧ yX4_piece.cls ≠ "java/lang/invoke/VarHandle" ∧ (parseMethodDescriptor yX4_piece.desc).map (fun d => d.parameters.length) = some 3 := by decide +kernel
theorem dd_yX4_page : yX4_page.cls ≠ "java/lang/invoke/MethodHandle" ∧ yX4_page.cls ≠ "java/lang/invoke/VarHandle" ∧ (parseMethodDescriptor yX4_page.desc).map (fun d => d.parameters.length) = some 2 := by decide +kernel
theorem dd_yX4_slot : yX4_slot.cls ≠ "java/lang/invoke/MethodHandle" ∧ yX4_slot.cls ≠ "java/lang/invoke/VarHandle" ∧ (parseMethodDescriptor yX4_slot.desc).map (fun d => d.parameters.length) = some 3 := by decide +kernel
theorem dd_yX4_count : yX4_count.cls ≠ "java/lang/invoke/MethodHandle" ∧ yX4_count.cls ≠ "java/lang/invoke/VarHandle" ∧ (parseMethodDescriptor yX4_count.desc).map (fun d => d.parameters.length) = some 1 := by decide +kernel
theorem dd_yX4_key : yX4_key.cls ≠ "java/lang/invoke/MethodHandle" ∧ yX4_key.cls ≠ "java/lang/invoke/VarHandle" ∧ (parseMethodDescriptor yX4_key.desc).map (fun d => d.parameters.length) = some 1 := by decide +kernel
theorem dd_yX4_ifPacked : yX4_ifPacked.cls ≠ "java/lang/invoke/MethodHandle" ∧ yX4_ifPacked.cls ≠ "java/lang/invoke/VarHandle" ∧ (parseMethodDescriptor yX4_ifPacked.desc).map (fun d => d.parameters.length) = some 2 := by decide +kernel
theorem dd_yX4_bestHead : yX4_bestHead.cls ≠ "java/lang/invoke/MethodHandle" ∧ yX4_bestHead.cls ≠ "java/lang/invoke/VarHandle" ∧ (parseMethodDescriptor yX4_bestHead.desc).map (fun d => d.parameters.length) = some 0 := by decide +kernel
theorem dd_yX4_most : yX4_most.cls ≠ "java/lang/invoke/MethodHandle" ∧ yX4_most.cls ≠ "java/lang/invoke/VarHandle" ∧ (parseMethodDescriptor yX4_most.desc).map (fun d => d.parameters.length) = some 1 := by decide +kernel
theorem dd_yX4_signOf : yX4_signOf.cls ≠ "java/lang/invoke/MethodHandle" ∧ yX4_signOf.cls ≠ "java/lang/invoke/VarHandle" ∧ (parseMethodDescriptor yX4_signOf.desc).map (fun d => d.parameters.length) = some 2 := by decide +kernel
theorem dd_yX4_signsIn : yX4_signsIn.cls ≠ "java/lang/invoke/MethodHandle" ∧ yX4_signsIn.cls ≠ "java/lang/invoke/VarHandle" ∧ (parseMethodDescriptor yX4_signsIn.desc).map (fun d => d.parameters.length) = some 1 := by decide +kernel
theorem dd_yX4_put : yX4_put.cls ≠ "java/lang/invoke/MethodHandle" ∧ yX4_put.cls ≠ "java/lang/invoke/VarHandle" ∧ (parseMethodDescriptor yX4_put.desc).map (fun d => d.parameters.length) = some 1 := by decide +kernel
theorem dd_yX4_wipe : yX4_wipe.cls ≠ "java/lang/invoke/MethodHandle" ∧ yX4_wipe.cls ≠ "java/lang/invoke/VarHandle" ∧ (parseMethodDescriptor yX4_wipe.desc).map (fun d => d.parameters.length) = some 0 := by decide +kernel
