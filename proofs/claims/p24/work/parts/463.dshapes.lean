/-! joins and loops that carry the object and the law's tables (D) -/
section DSHAPES
variable {p : Program} {l : Launch} {e : Env} {R : Room} {s : State} {m : MethodId} {args : Array Value} {below : List Frame} {meth : Method} {c : Code}
variable {cc : ByteArray} {nL : Nat} {own : String}
variable {α β : Type} {A : Nat → Prop} {Q : α → State → Prop} {k n : Nat} {I : Heap → Prop} {pc : Nat} {L L' : List (Nat × Value)} {st : List Value} {kk : Option α}

theorem d_jp_ {K : Option α} {f : (Option α) → Option α} (kJ nJ pcB : Nat) (LB : List (Nat × Value)) (SB : List Value) (h1 : Sim p l e R s m args below meth c nL A Q kJ nJ I pcB LB SB K) (h2 : ∀ j : Option α, (Sim p l e R s m args below meth c nL A Q kJ nJ I pcB LB SB j) → Sim p l e R s m args below meth c nL A Q k n I pc L st (f j)) : Sim p l e R s m args below meth c nL A Q k n I pc L st (jp K f) := h2 K h1
theorem d_jp_D {K : Blk → (Nat → Blk) → Nat → Blk → Option α} {f : (Blk → (Nat → Blk) → Nat → Blk → Option α) → Option α} {V : Blk → (Nat → Blk) → Nat → Blk → Heap → Prop} (kJ nJ pcB : Nat) (LB : List (Nat × Value)) (SB : List Value) (h1 : ∀ (σ : Blk) (σB : Nat → Blk) (σn : Nat) (τ : Blk), Rg σ → RgB σB → 2 ≤ σn → Rg τ → Sim p l e R s m args below meth c nL A Q kJ nJ (V σ σB σn τ) pcB LB SB (K σ σB σn τ)) (h2 : ∀ j : Blk → (Nat → Blk) → Nat → Blk → Option α, (∀ (σ : Blk) (σB : Nat → Blk) (σn : Nat) (τ : Blk), Rg σ → RgB σB → 2 ≤ σn → Rg τ → Sim p l e R s m args below meth c nL A Q kJ nJ (V σ σB σn τ) pcB LB SB (j σ σB σn τ)) → Sim p l e R s m args below meth c nL A Q k n I pc L st (f j)) : Sim p l e R s m args below meth c nL A Q k n I pc L st (jp K f) := h2 K h1
theorem d_jp_I {K : Int → Option α} {f : (Int → Option α) → Option α} (kJ nJ pcB : Nat) (LB : Int → List (Nat × Value)) (SB : Int → List Value) (h1 : ∀ (y0 : Int), inR y0 → Sim p l e R s m args below meth c nL A Q kJ nJ I pcB (LB y0) (SB y0) (K y0)) (h2 : ∀ j : Int → Option α, (∀ (y0 : Int), inR y0 → Sim p l e R s m args below meth c nL A Q kJ nJ I pcB (LB y0) (SB y0) (j y0)) → Sim p l e R s m args below meth c nL A Q k n I pc L st (f j)) : Sim p l e R s m args below meth c nL A Q k n I pc L st (jp K f) := h2 K h1
theorem d_jp_ID {K : Int → Blk → (Nat → Blk) → Nat → Blk → Option α} {f : (Int → Blk → (Nat → Blk) → Nat → Blk → Option α) → Option α} {V : Blk → (Nat → Blk) → Nat → Blk → Heap → Prop} (kJ nJ pcB : Nat) (LB : Int → List (Nat × Value)) (SB : Int → List Value) (h1 : ∀ (y0 : Int) (σ : Blk) (σB : Nat → Blk) (σn : Nat) (τ : Blk), inR y0 → Rg σ → RgB σB → 2 ≤ σn → Rg τ → Sim p l e R s m args below meth c nL A Q kJ nJ (V σ σB σn τ) pcB (LB y0) (SB y0) (K y0 σ σB σn τ)) (h2 : ∀ j : Int → Blk → (Nat → Blk) → Nat → Blk → Option α, (∀ (y0 : Int) (σ : Blk) (σB : Nat → Blk) (σn : Nat) (τ : Blk), inR y0 → Rg σ → RgB σB → 2 ≤ σn → Rg τ → Sim p l e R s m args below meth c nL A Q kJ nJ (V σ σB σn τ) pcB (LB y0) (SB y0) (j y0 σ σB σn τ)) → Sim p l e R s m args below meth c nL A Q k n I pc L st (f j)) : Sim p l e R s m args below meth c nL A Q k n I pc L st (jp K f) := h2 K h1
theorem d_jp_II {K : Int → Int → Option α} {f : (Int → Int → Option α) → Option α} (kJ nJ pcB : Nat) (LB : Int → Int → List (Nat × Value)) (SB : Int → Int → List Value) (h1 : ∀ (y0 : Int) (y1 : Int), inR y0 → inR y1 → Sim p l e R s m args below meth c nL A Q kJ nJ I pcB (LB y0 y1) (SB y0 y1) (K y0 y1)) (h2 : ∀ j : Int → Int → Option α, (∀ (y0 : Int) (y1 : Int), inR y0 → inR y1 → Sim p l e R s m args below meth c nL A Q kJ nJ I pcB (LB y0 y1) (SB y0 y1) (j y0 y1)) → Sim p l e R s m args below meth c nL A Q k n I pc L st (f j)) : Sim p l e R s m args below meth c nL A Q k n I pc L st (jp K f) := h2 K h1
theorem d_jp_III {K : Int → Int → Int → Option α} {f : (Int → Int → Int → Option α) → Option α} (kJ nJ pcB : Nat) (LB : Int → Int → Int → List (Nat × Value)) (SB : Int → Int → Int → List Value) (h1 : ∀ (y0 : Int) (y1 : Int) (y2 : Int), inR y0 → inR y1 → inR y2 → Sim p l e R s m args below meth c nL A Q kJ nJ I pcB (LB y0 y1 y2) (SB y0 y1 y2) (K y0 y1 y2)) (h2 : ∀ j : Int → Int → Int → Option α, (∀ (y0 : Int) (y1 : Int) (y2 : Int), inR y0 → inR y1 → inR y2 → Sim p l e R s m args below meth c nL A Q kJ nJ I pcB (LB y0 y1 y2) (SB y0 y1 y2) (j y0 y1 y2)) → Sim p l e R s m args below meth c nL A Q k n I pc L st (f j)) : Sim p l e R s m args below meth c nL A Q k n I pc L st (jp K f) := h2 K h1
theorem d_jp_IIII {K : Int → Int → Int → Int → Option α} {f : (Int → Int → Int → Int → Option α) → Option α} (kJ nJ pcB : Nat) (LB : Int → Int → Int → Int → List (Nat × Value)) (SB : Int → Int → Int → Int → List Value) (h1 : ∀ (y0 : Int) (y1 : Int) (y2 : Int) (y3 : Int), inR y0 → inR y1 → inR y2 → inR y3 → Sim p l e R s m args below meth c nL A Q kJ nJ I pcB (LB y0 y1 y2 y3) (SB y0 y1 y2 y3) (K y0 y1 y2 y3)) (h2 : ∀ j : Int → Int → Int → Int → Option α, (∀ (y0 : Int) (y1 : Int) (y2 : Int) (y3 : Int), inR y0 → inR y1 → inR y2 → inR y3 → Sim p l e R s m args below meth c nL A Q kJ nJ I pcB (LB y0 y1 y2 y3) (SB y0 y1 y2 y3) (j y0 y1 y2 y3)) → Sim p l e R s m args below meth c nL A Q k n I pc L st (f j)) : Sim p l e R s m args below meth c nL A Q k n I pc L st (jp K f) := h2 K h1
theorem d_lp_I {F : Nat → Int → Option α} (pcB : Nat) (LB : Int → List (Nat × Value)) (h0 : ∀ (y0 : Int), (F 0 y0) = none) (hs : ∀ N : Nat, (∀ (y0 : Int), inR y0 → Sim p l e R s m args below meth c nL A Q k n I pcB (LB y0) [] (F N y0)) → ∀ (y0 : Int), inR y0 → Sim p l e R s m args below meth c nL A Q k n I pcB (LB y0) [] (F (N + 1) y0)) (N : Nat) : ∀ (y0 : Int), inR y0 → Sim p l e R s m args below meth c nL A Q k n I pcB (LB y0) [] (F N y0) := by
  induction N with
  | zero =>
    intros
    rw [h0]
    exact s_none
  | succ N ih => exact hs N ih
theorem d_lp_ID {F : Nat → Int → Blk → (Nat → Blk) → Nat → Blk → Option α} {V : Blk → (Nat → Blk) → Nat → Blk → Heap → Prop} (pcB : Nat) (LB : Int → List (Nat × Value)) (h0 : ∀ (y0 : Int) (σ : Blk) (σB : Nat → Blk) (σn : Nat) (τ : Blk), (F 0 y0 σ σB σn τ) = none) (hs : ∀ N : Nat, (∀ (y0 : Int) (σ : Blk) (σB : Nat → Blk) (σn : Nat) (τ : Blk), inR y0 → Rg σ → RgB σB → 2 ≤ σn → Rg τ → Sim p l e R s m args below meth c nL A Q k n (V σ σB σn τ) pcB (LB y0) [] (F N y0 σ σB σn τ)) → ∀ (y0 : Int) (σ : Blk) (σB : Nat → Blk) (σn : Nat) (τ : Blk), inR y0 → Rg σ → RgB σB → 2 ≤ σn → Rg τ → Sim p l e R s m args below meth c nL A Q k n (V σ σB σn τ) pcB (LB y0) [] (F (N + 1) y0 σ σB σn τ)) (N : Nat) : ∀ (y0 : Int) (σ : Blk) (σB : Nat → Blk) (σn : Nat) (τ : Blk), inR y0 → Rg σ → RgB σB → 2 ≤ σn → Rg τ → Sim p l e R s m args below meth c nL A Q k n (V σ σB σn τ) pcB (LB y0) [] (F N y0 σ σB σn τ) := by
  induction N with
  | zero =>
    intros
    rw [h0]
    exact s_none
  | succ N ih => exact hs N ih
theorem d_lp_II {F : Nat → Int → Int → Option α} (pcB : Nat) (LB : Int → Int → List (Nat × Value)) (h0 : ∀ (y0 : Int) (y1 : Int), (F 0 y0 y1) = none) (hs : ∀ N : Nat, (∀ (y0 : Int) (y1 : Int), inR y0 → inR y1 → Sim p l e R s m args below meth c nL A Q k n I pcB (LB y0 y1) [] (F N y0 y1)) → ∀ (y0 : Int) (y1 : Int), inR y0 → inR y1 → Sim p l e R s m args below meth c nL A Q k n I pcB (LB y0 y1) [] (F (N + 1) y0 y1)) (N : Nat) : ∀ (y0 : Int) (y1 : Int), inR y0 → inR y1 → Sim p l e R s m args below meth c nL A Q k n I pcB (LB y0 y1) [] (F N y0 y1) := by
  induction N with
  | zero =>
    intros
    rw [h0]
    exact s_none
  | succ N ih => exact hs N ih
theorem d_lp_IID {F : Nat → Int → Int → Blk → (Nat → Blk) → Nat → Blk → Option α} {V : Blk → (Nat → Blk) → Nat → Blk → Heap → Prop} (pcB : Nat) (LB : Int → Int → List (Nat × Value)) (h0 : ∀ (y0 : Int) (y1 : Int) (σ : Blk) (σB : Nat → Blk) (σn : Nat) (τ : Blk), (F 0 y0 y1 σ σB σn τ) = none) (hs : ∀ N : Nat, (∀ (y0 : Int) (y1 : Int) (σ : Blk) (σB : Nat → Blk) (σn : Nat) (τ : Blk), inR y0 → inR y1 → Rg σ → RgB σB → 2 ≤ σn → Rg τ → Sim p l e R s m args below meth c nL A Q k n (V σ σB σn τ) pcB (LB y0 y1) [] (F N y0 y1 σ σB σn τ)) → ∀ (y0 : Int) (y1 : Int) (σ : Blk) (σB : Nat → Blk) (σn : Nat) (τ : Blk), inR y0 → inR y1 → Rg σ → RgB σB → 2 ≤ σn → Rg τ → Sim p l e R s m args below meth c nL A Q k n (V σ σB σn τ) pcB (LB y0 y1) [] (F (N + 1) y0 y1 σ σB σn τ)) (N : Nat) : ∀ (y0 : Int) (y1 : Int) (σ : Blk) (σB : Nat → Blk) (σn : Nat) (τ : Blk), inR y0 → inR y1 → Rg σ → RgB σB → 2 ≤ σn → Rg τ → Sim p l e R s m args below meth c nL A Q k n (V σ σB σn τ) pcB (LB y0 y1) [] (F N y0 y1 σ σB σn τ) := by
  induction N with
  | zero =>
    intros
    rw [h0]
    exact s_none
  | succ N ih => exact hs N ih
theorem d_lp_III {F : Nat → Int → Int → Int → Option α} (pcB : Nat) (LB : Int → Int → Int → List (Nat × Value)) (h0 : ∀ (y0 : Int) (y1 : Int) (y2 : Int), (F 0 y0 y1 y2) = none) (hs : ∀ N : Nat, (∀ (y0 : Int) (y1 : Int) (y2 : Int), inR y0 → inR y1 → inR y2 → Sim p l e R s m args below meth c nL A Q k n I pcB (LB y0 y1 y2) [] (F N y0 y1 y2)) → ∀ (y0 : Int) (y1 : Int) (y2 : Int), inR y0 → inR y1 → inR y2 → Sim p l e R s m args below meth c nL A Q k n I pcB (LB y0 y1 y2) [] (F (N + 1) y0 y1 y2)) (N : Nat) : ∀ (y0 : Int) (y1 : Int) (y2 : Int), inR y0 → inR y1 → inR y2 → Sim p l e R s m args below meth c nL A Q k n I pcB (LB y0 y1 y2) [] (F N y0 y1 y2) := by
  induction N with
  | zero =>
    intros
    rw [h0]
    exact s_none
  | succ N ih => exact hs N ih
theorem d_lp_IIID {F : Nat → Int → Int → Int → Blk → (Nat → Blk) → Nat → Blk → Option α} {V : Blk → (Nat → Blk) → Nat → Blk → Heap → Prop} (pcB : Nat) (LB : Int → Int → Int → List (Nat × Value)) (h0 : ∀ (y0 : Int) (y1 : Int) (y2 : Int) (σ : Blk) (σB : Nat → Blk) (σn : Nat) (τ : Blk), (F 0 y0 y1 y2 σ σB σn τ) = none) (hs : ∀ N : Nat, (∀ (y0 : Int) (y1 : Int) (y2 : Int) (σ : Blk) (σB : Nat → Blk) (σn : Nat) (τ : Blk), inR y0 → inR y1 → inR y2 → Rg σ → RgB σB → 2 ≤ σn → Rg τ → Sim p l e R s m args below meth c nL A Q k n (V σ σB σn τ) pcB (LB y0 y1 y2) [] (F N y0 y1 y2 σ σB σn τ)) → ∀ (y0 : Int) (y1 : Int) (y2 : Int) (σ : Blk) (σB : Nat → Blk) (σn : Nat) (τ : Blk), inR y0 → inR y1 → inR y2 → Rg σ → RgB σB → 2 ≤ σn → Rg τ → Sim p l e R s m args below meth c nL A Q k n (V σ σB σn τ) pcB (LB y0 y1 y2) [] (F (N + 1) y0 y1 y2 σ σB σn τ)) (N : Nat) : ∀ (y0 : Int) (y1 : Int) (y2 : Int) (σ : Blk) (σB : Nat → Blk) (σn : Nat) (τ : Blk), inR y0 → inR y1 → inR y2 → Rg σ → RgB σB → 2 ≤ σn → Rg τ → Sim p l e R s m args below meth c nL A Q k n (V σ σB σn τ) pcB (LB y0 y1 y2) [] (F N y0 y1 y2 σ σB σn τ) := by
  induction N with
  | zero =>
    intros
    rw [h0]
    exact s_none
  | succ N ih => exact hs N ih
theorem d_lp_IIII {F : Nat → Int → Int → Int → Int → Option α} (pcB : Nat) (LB : Int → Int → Int → Int → List (Nat × Value)) (h0 : ∀ (y0 : Int) (y1 : Int) (y2 : Int) (y3 : Int), (F 0 y0 y1 y2 y3) = none) (hs : ∀ N : Nat, (∀ (y0 : Int) (y1 : Int) (y2 : Int) (y3 : Int), inR y0 → inR y1 → inR y2 → inR y3 → Sim p l e R s m args below meth c nL A Q k n I pcB (LB y0 y1 y2 y3) [] (F N y0 y1 y2 y3)) → ∀ (y0 : Int) (y1 : Int) (y2 : Int) (y3 : Int), inR y0 → inR y1 → inR y2 → inR y3 → Sim p l e R s m args below meth c nL A Q k n I pcB (LB y0 y1 y2 y3) [] (F (N + 1) y0 y1 y2 y3)) (N : Nat) : ∀ (y0 : Int) (y1 : Int) (y2 : Int) (y3 : Int), inR y0 → inR y1 → inR y2 → inR y3 → Sim p l e R s m args below meth c nL A Q k n I pcB (LB y0 y1 y2 y3) [] (F N y0 y1 y2 y3) := by
  induction N with
  | zero =>
    intros
    rw [h0]
    exact s_none
  | succ N ih => exact hs N ih
theorem d_lp_IIIII {F : Nat → Int → Int → Int → Int → Int → Option α} (pcB : Nat) (LB : Int → Int → Int → Int → Int → List (Nat × Value)) (h0 : ∀ (y0 : Int) (y1 : Int) (y2 : Int) (y3 : Int) (y4 : Int), (F 0 y0 y1 y2 y3 y4) = none) (hs : ∀ N : Nat, (∀ (y0 : Int) (y1 : Int) (y2 : Int) (y3 : Int) (y4 : Int), inR y0 → inR y1 → inR y2 → inR y3 → inR y4 → Sim p l e R s m args below meth c nL A Q k n I pcB (LB y0 y1 y2 y3 y4) [] (F N y0 y1 y2 y3 y4)) → ∀ (y0 : Int) (y1 : Int) (y2 : Int) (y3 : Int) (y4 : Int), inR y0 → inR y1 → inR y2 → inR y3 → inR y4 → Sim p l e R s m args below meth c nL A Q k n I pcB (LB y0 y1 y2 y3 y4) [] (F (N + 1) y0 y1 y2 y3 y4)) (N : Nat) : ∀ (y0 : Int) (y1 : Int) (y2 : Int) (y3 : Int) (y4 : Int), inR y0 → inR y1 → inR y2 → inR y3 → inR y4 → Sim p l e R s m args below meth c nL A Q k n I pcB (LB y0 y1 y2 y3 y4) [] (F N y0 y1 y2 y3 y4) := by
  induction N with
  | zero =>
    intros
    rw [h0]
    exact s_none
  | succ N ih => exact hs N ih
theorem d_rn_ID {F : Nat → Int → Blk → (Nat → Blk) → Nat → Blk → Option α} {V : Blk → (Nat → Blk) → Nat → Blk → Heap → Prop} (Km Nm Mk Mn pcB : Nat) (LB : Int → List (Nat × Value)) (h0 : ∀ (y0 : Int) (σ : Blk) (σB : Nat → Blk) (σn : Nat) (τ : Blk), (F 0 y0 σ σB σn τ) = none) (hs : ∀ N : Nat, (∀ (y0 : Int) (σ : Blk) (σB : Nat → Blk) (σn : Nat) (τ : Blk), inR y0 → Rg σ → RgB σB → 2 ≤ σn → Rg τ → Sim p l e R s m args below meth c nL A Q (Km - N * Mk) (Nm - N * Mn) (V σ σB σn τ) pcB (LB y0) [] (F N y0 σ σB σn τ)) → N + 1 ≤ 30 → ∀ (y0 : Int) (σ : Blk) (σB : Nat → Blk) (σn : Nat) (τ : Blk), inR y0 → Rg σ → RgB σB → 2 ≤ σn → Rg τ → Sim p l e R s m args below meth c nL A Q (Km - (N + 1) * Mk) (Nm - (N + 1) * Mn) (V σ σB σn τ) pcB (LB y0) [] (F (N + 1) y0 σ σB σn τ)) (N : Nat) (hN : N ≤ 30) : ∀ (y0 : Int) (σ : Blk) (σB : Nat → Blk) (σn : Nat) (τ : Blk), inR y0 → Rg σ → RgB σB → 2 ≤ σn → Rg τ → Sim p l e R s m args below meth c nL A Q (Km - N * Mk) (Nm - N * Mn) (V σ σB σn τ) pcB (LB y0) [] (F N y0 σ σB σn τ) := by
  induction N with
  | zero =>
    intros
    rw [h0]
    exact s_none
  | succ N ih => exact hs N (ih (by omega)) hN
end DSHAPES
theorem dd_yL_same : yL_same.cls ≠ "java/lang/invoke/MethodHandle" ∧ yL_same.cls ≠ "java/lang/invoke/VarHandle" ∧ (parseMethodDescriptor yL_same.desc).map (fun d => d.parameters.length) = some 5 := by decide +kernel
theorem dd_yL_would : yL_would.cls ≠ "java/lang/invoke/MethodHandle" ∧ yL_would.cls ≠ "java/lang/invoke/VarHandle" ∧ (parseMethodDescriptor yL_would.desc).map (fun d => d.parameters.length) = some 8 := by decide +kernel
