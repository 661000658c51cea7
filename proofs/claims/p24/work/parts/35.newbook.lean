/-! new Book(), with its constructor, in the world of the whole object -/
section NEWB
variable {p : Program} {l : Launch} {e : Env} {R : Room} {s : State} {m : MethodId} {args : Array Value} {below : List Frame} {meth : Method} {c : Code}
variable {cc : ByteArray} {nL : Nat} {own : String}
variable {α β : Type} {A : Nat → Prop} {Q : α → State → Prop} {k n : Nat} {I : Heap → Prop} {pc : Nat} {L L' : List (Nat × Value)} {st : List Value} {kk : Option α}
variable {G : Gt} {x y0 nb : Nat} {σ : Blk} {B : Nat → Blk} {V : Blk → (Nat → Blk) → Nat → Heap → Prop}
def Fnb (x y0 nb : Nat) (P : Heap → Prop) : Heap → Prop := fun H => ∃ H0 : Heap, P H0 ∧ H0.size = ad x y0 nb ∧ ad x y0 nb ≤ H.size ∧ ∀ q : Nat, q < ad x y0 nb → H[q]? = H0[q]?
theorem Fnb.frs {P : Heap → Prop} : FrS (ad x y0 nb) (Fnb x y0 nb P) := fun H H1 ⟨H0, h1, h2, h3, h4⟩ hs ho => ⟨H0, h1, h2, by omega, fun q hq => (ho q hq).trans (h4 q hq)⟩
theorem ad_nb (h : 2 ≤ nb) : ad x y0 nb = y0 + 98 * (nb - 2) := by
  unfold ad
  rw [if_neg (by omega), if_neg (by omega)]
theorem lsL_len {lay : Lay} {N : Nat} {σ : Blk} : (lsL lay N σ).length = N := by simp [lsL]
theorem nb_end (hV : WV G x y0 V) {β0 : Blk} {H : Heap} (h : Cl G (ad x y0 nb) (lsL (layBook G (ad x y0 nb)) 98 β0) (Fnb x y0 nb (V σ B nb)) H) : V σ (ub B nb β0) (nb + 1) H := by
  obtain ⟨hs, hc, H0, h1, h2, h3, h4⟩ := h
  obtain ⟨w1, w2, w3, w4, w5⟩ := hV.1 _ _ _ _ h1
  have ea := ad_nb (x := x) (y0 := y0) w4
  rw [lsL_len] at hs
  refine hV.2 _ _ _ _ _ _ H0 H h1 ⟨fun i hi => (w1 i hi).kept (h4 _ (by show x + i < _; omega)), fun j hj => ?_, by rw [hs, ea]; omega, by omega, w5⟩ (by omega) (fun q hq _ => h4 q (by omega))
  by_cases ej : j = nb
  · subst ej
    have e1 : ub B j β0 j = β0 := by simp [ub]
    rw [e1]
    intro i hi
    exact hc i _ (by simp [lsL, hi])
  · have e1 : ub B nb β0 j = B j := by simp [ub, ej]
    rw [e1]
    intro i hi
    have hjb : ad x y0 j + 98 ≤ ad x y0 nb := by
      have hj2 : j < nb := by omega
      rw [ea]
      unfold ad
      split
      · omega
      · split <;> omega
    exact (w2 j (by omega) i hi).kept (h4 _ (by show ad x y0 j + i < _; omega))
theorem u_new (C : Cx p s m args meth c cc nL own) (hK : KA G s) (hV : WV G x y0 V) (hA : ∀ q, Rx x y0 q → A q) (h5 : x + 205 ≤ y0) (h2 : 2 ≤ nb) (hB : RgB B) {ix ix2 : Nat} {K : (Nat → Blk) → Nat → Option α} (hcl : Cond.classLink own ix RX0 ∈ lw_g) (hm : Cond.methodLink own ix2 yX0_init ∈ lw_g) (hd1 : decode cc pc = .ok (.new ix, 3)) (hd2 : decode cc (pc + 3) = .ok (.dup, 1)) (hd3 : decode cc (pc + 3 + 1) = .ok (.invokespecial ix2, 3)) (hf : k + 98 ≤ R.cells ∧ n + 3960 ≤ R.slots) (hR : 3 ≤ R.frames ∧ 64 ≤ R.locals) (hcat : ((Value.ref (ad x y0 nb) :: st).map fun v => v.category).sum ≤ 8) (h : ∀ B', RgB B' → Sim p l e R s m args below meth c nL A Q (k + 98) (n + 3960) (V σ B' (nb + 1)) (pc + 3 + 1 + 3) L (.ref (ad x y0 nb + 0) :: st) (K B' (nb + 1))) : Sim p l e R s m args below meth c nL A Q k n (V σ B nb) pc L st (nBn B nb K) := by
  have hAb : ∀ q, ad x y0 nb ≤ q → A q := fun q hq => hA q (Or.inr (by
    rw [ad_nb h2] at hq
    omega))
  refine s_I (I' := Cl G (ad x y0 nb) [] (Fnb x y0 nb (V σ B nb))) (fun H hH => ?_) ?_
  · obtain ⟨w1, w2, w3, w4, w5⟩ := hV.1 _ _ _ _ hH
    have ea := ad_nb (x := x) (y0 := y0) w4
    exact ⟨by rw [w3, ea]; rfl, fun i e hi => by simp at hi, H, hH, by omega, by omega, fun q _ => rfl⟩
  · unfold nBn
    refine n_new (es' := [.inr (0, [vI 0, vI 0, vI 0, .null, .null, .null])]) C hK.1 Fnb.frs (i := 0) rfl rfl q_w_X0 tyX0_ok hcl q_o_X0 q_i_X0 (fun j hj => by rcases (show j = 0 ∨ j = 1 ∨ j = 2 ∨ j = 3 ∨ j = 4 ∨ j = 5 by omega) with rfl | rfl | rfl | rfl | rfl | rfl <;> rfl) rfl hd1 ⟨by omega, by omega⟩ ?_
    refine s_dup C hd2 rfl ?_
    refine n_callC (y := yX0_init) (i := 0) (lay := layBook G (ad x y0 nb + 0)) (N := 98) (pre := []) (mc := 97) (ms := 3954) C hK Fnb.frs hAb (fun F' hF' => m_X0_init hF') rfl rfl (cb_of C 0 q_c_yX0_init q_i_X0 hm rfl rfl dd_yX0_init ⟨by show 2 + 1 ≤ _; omega, by show 8 + (2 + 11) + 43 ≤ _; omega⟩) rfl q_i_yX0_init hcat hd3 ⟨by omega, by omega⟩ (fun β hβ => ?_)
    refine s_I (I' := V σ (ub B nb β) (nb + 1)) (fun H hH => nb_end hV hH) ?_
    have e1 : n + 6 + 3954 = n + 3960 := by omega
    have e2 : k + 1 + 97 = k + 98 := by omega
    rw [e1, e2]
    exact h _ (RgB_ub hB hβ)
end NEWB
