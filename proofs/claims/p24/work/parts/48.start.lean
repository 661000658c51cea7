/-! THE LAW FROM ITS ENTRY, over the picture of its loop -/
theorem cl_nil {G : Gt} {b : Nat} {F : Heap → Prop} {H : Heap} (h1 : H.size = b) (h2 : F H) : Cl G b [] F H := ⟨by rw [h1]; rfl, fun i e hi => by simp at hi, h2⟩
section START
variable {p : Program} {l : Launch} {e : Env} {R : Room} {s : State} {m : MethodId} {args : Array Value} {below : List Frame} {meth : Method} {c : Code}
variable {cc : ByteArray} {nL : Nat} {own : String}
variable {α : Type} {A : Nat → Prop} {Q : α → State → Prop} {k n : Nat} {I : Heap → Prop} {pc : Nat} {L L' : List (Nat × Value)} {st : List Value} {kk : Option α}
theorem n_callX (C : Cx p s m args meth c cc nL own) {G : Gt} (hK : KA G s) {ix b : Nat} {rest : List Value} {F : Heap → Prop} {K : (Blk × Blk × Blk) → Option α} (hF : FrS b F) (hAb : ∀ q, b ≤ q → A q) (hm : Cond.methodLink own ix yX4_init ∈ lw_g) (hR : 4 ≤ R.frames ∧ 84 ≤ R.locals)
    (hcat : (rest.map fun v => v.category).sum ≤ 8) (hd : decode cc pc = .ok (.invokespecial ix, 3)) (hf : k + 204 ≤ R.cells ∧ n + 8101 ≤ R.slots)
    (h : ∀ z, Rg z.1 → Rg z.2.1 → Rg z.2.2 → Sim p l e R s m args below meth c nL A Q (k + 204) (n + 8101) (X4new G b F z) (pc + 3) L rest (K z)) : Sim p l e R s m args below meth c nL A Q k n (Cl G b [.inr (5, [.null, .null, .null, .null, .null])] F) pc L (.ref (b + 0) :: rest) (g_X4_init.bind K) := s_bind fun z hz x hx H locs ls hI hS hL => by
  refine s_run (G := G) (y := yX4_init) (A1 := fun q => b ≤ q) hAb (va_runI (b := b + 0) (As := []) (rest := rest) ⟨C.1, C.2.1, C.2.2.1, C.2.2.2.1, C.2.2.2.2.1⟩ (m_X4_init hF z hz) ⟨cb_of C 0 q_c_yX4_init q_i_X4 hm rfl rfl dd_yX4_init ⟨by show 3 + 1 ≤ _; omega, by show 8 + (1 + 11) + 64 ≤ _; omega⟩, rfl, C.2.2.2.2.1 _ q_i_yX4_init⟩ ⟨pc_blind, fun U hU hW => pc_in hK hI U hU hW⟩ rfl rfl hL.1 rfl (lv_room hcat) hd hf) hS (fun v H1 locs1 hp _ _ hS1 => ?_)
  obtain ⟨rfl, h1, h2, h3, h4⟩ := hp
  exact h z h1 h2 h3 x hx H1 locs1 ls h4 hS1 hL
end START
def Bst (z : Blk × Blk × Blk) : Nat → Blk := fun k => if k = 0 then z.2.1 else z.2.2
theorem rg_Bst {z : Blk × Blk × Blk} (h : Rg z.2.1) (h2 : Rg z.2.2) : RgB (Bst z) := by
  intro k
  unfold Bst
  split <;> assumption
/-- the law's tables as they are made -/
def tau0 : Blk := fun c j => if c = 6 ∧ j % 2 = 0 then -2147483648 else 0
theorem rg_tau0 : Rg tau0 := by
  intro c j
  unfold tau0
  split <;> exact inR_c _ rfl
theorem la_0 {G : Gt} : la G 12 (tau0 6) = .inl (G.1.1 7, (12, .inr (.inl (fun _ => 0)))) := by
  have e : (fun j => mkL (tau0 6 (2 * j)) (tau0 6 (2 * j + 1))) = fun _ => 0 := by
    funext j
    have e1 : tau0 6 (2 * j) = -2147483648 := if_pos ⟨rfl, by omega⟩
    have e2 : tau0 6 (2 * j + 1) = 0 := if_neg (by omega)
    rw [e1, e2]
    rfl
  unfold la
  rw [e]
theorem n_newaL {p : Program} {l : Launch} {e : Env} {R : Room} {s : State} {m : MethodId} {args : Array Value} {below : List Frame} {meth : Method} {c : Code} {cc : ByteArray} {nL : Nat} {own : String} {α : Type} {A : Nat → Prop} {Q : α → State → Prop} {k n : Nat} {pc : Nat} {L : List (Nat × Value)} {st : List Value} {kk : Option α} (C : Cx p s m args meth c cc nL own) {G : Gt} (hK : KK G s) {b i : Nat} {es es' : List va_E} {F : Heap → Prop} (hF : FrS b F) (hi : es.length = i) (hes : es ++ [la G 12 (tau0 6)] = es') (hd : decode cc pc = .ok (.newarray .long, 2)) (hr : k + 1 ≤ R.cells ∧ n + 12 ≤ R.slots) (h : Sim p l e R s m args below meth c nL A Q (k + 1) (n + 12) (Cl G b es' F) (pc + 2) L (.ref (b + i) :: st) kk) : Sim p l e R s m args below meth c nL A Q k n (Cl G b es F) pc L (vI 12 :: st) kk := fun x hx H locs ls hI hS hL => by
  have hz0 : H.size = b + i := by rw [hI.1, hi]
  refine va_newaK (atype := .long) C.1 C.2.1 (C.2.2.2.2.1 _ q_a_long) rfl hd (n := Int32.ofInt 12) (N := 12) rfl (by decide) (by decide) (by decide) hr.1 hr.2 (h := b + i) hz0 fun H1 cA e1 z1 o1 hAr hNm => ?_
  have ec : cA = G.1.1 7 := Option.some.inj (hNm.symm.trans (hK.2 3 _ rfl).2)
  subst ec
  refine h x hx H1 locs ls ?_ ⟨Nat.le_trans hS.1 (by omega), fun x h1 h2 => (o1 x (by have := hS.1; omega)).trans (hS.2.1 x h1 h2), hS.2.2⟩ hL
  rw [← hes]
  refine hI.push hF (by omega) (fun q hq => o1 q (by omega)) ?_
  rw [hi, la_0]
  exact e1
def g_main (xs : Nat → Int32) (Ls : Nat) : Option Int :=
  g_X4_init.bind fun z => g_L_law xs Ls z.1 (Bst z) 2 tau0
theorem vl_start {G : Gt} {x : Nat} {z : Blk × Blk × Blk} {H : Heap} (h : Cl G (x + 205) [ia G 4 (fun _ => 0), ia G 28 (fun _ => 0), ia G 64 (fun _ => 0), ia G 4 (fun _ => 0), ia G 28 (fun _ => 0), ia G 64 (fun _ => 0), la G 12 (tau0 6)] (fun H => ∃ H0, X4new G x (fun _ => True) z H0 ∧ ∀ q, q < x + 205 → H[q]? = H0[q]?) H) : VL G x z.1 (Bst z) 2 tau0 H := by
  obtain ⟨h1, h2, H0, ⟨h3, h4, h5, h6, -⟩, h7⟩ := h
  have h8 : H.size = x + 212 := h1
  refine ⟨⟨fun i hi => (h4 (x + 212) i hi).kept (h7 _ (by show x + i < _; omega)), fun k hk => ?_, by rw [h8], by decide, by omega⟩, fun i hi => ?_⟩
  · match k, hk with
    | 0, _ => exact fun i hi => (h5 i hi).kept (h7 _ (by show x + 9 + i < _; omega))
    | 1, _ => exact fun i hi => (h6 i hi).kept (h7 _ (by show x + 107 + i < _; omega))
    | k + 2, hk => omega
  · have e0 : ∀ c, c < 6 → tau0 c = fun _ => 0 := fun c hc => by
      funext j
      unfold tau0
      rw [if_neg (by omega)]
    rcases (show i = 0 ∨ i = 1 ∨ i = 2 ∨ i = 3 ∨ i = 4 ∨ i = 5 ∨ i = 6 by omega) with rfl | rfl | rfl | rfl | rfl | rfl | rfl
    · rw [e0 0 (by omega)]; exact h2 0 _ rfl
    · rw [e0 1 (by omega)]; exact h2 1 _ rfl
    · rw [e0 2 (by omega)]; exact h2 2 _ rfl
    · rw [e0 3 (by omega)]; exact h2 3 _ rfl
    · rw [e0 4 (by omega)]; exact h2 4 _ rfl
    · rw [e0 5 (by omega)]; exact h2 5 _ rfl
    · exact h2 6 _ rfl
theorem ka_start {s : State} {args : Array Value} (hts : ∀ w ∈ lw_tbl, w.before args s = true) : ∃ G : Gt, KA G s := by
  obtain ⟨c0, i0, k0⟩ := u_known (C := RX0) (T := TX0) (N := 6) (n := 6) (ws := lw_g) (fun w hw => hts w (List.mem_filter.mp hw).1) q_w_X0 (hts _ (List.mem_filter.mp q_o_X0).1)
  obtain ⟨c1, i1, k1⟩ := u_known (C := RX1) (T := TX1) (N := 3) (n := 3) (ws := lw_g) (fun w hw => hts w (List.mem_filter.mp hw).1) q_w_X1 (hts _ (List.mem_filter.mp q_o_X1).1)
  obtain ⟨c2, i2, k2⟩ := u_known (C := RX2) (T := TX2) (N := 9) (n := 9) (ws := lw_g) (fun w hw => hts w (List.mem_filter.mp hw).1) q_w_X2 (hts _ (List.mem_filter.mp q_o_X2).1)
  obtain ⟨c3, i3, k3⟩ := u_known (C := RX3) (T := TX3) (N := 4) (n := 4) (ws := lw_g) (fun w hw => hts w (List.mem_filter.mp hw).1) q_w_X3 (hts _ (List.mem_filter.mp q_o_X3).1)
  obtain ⟨c4, i4, k4⟩ := u_known (C := RX7) (T := TX7) (N := 7) (n := 7) (ws := lw_g) (fun w hw => hts w (List.mem_filter.mp hw).1) q_w_X7 (hts _ (List.mem_filter.mp q_o_X7).1)
  obtain ⟨c5, i5, k5⟩ := u_known (C := RX4) (T := TX4) (N := 5) (n := 5) (ws := lw_g) (fun w hw => hts w (List.mem_filter.mp hw).1) q_w_X4 (hts _ (List.mem_filter.mp q_o_X4).1)
  obtain ⟨cI, kI, compI, a1, a2, a3⟩ := Cond.arrayClass_spec (hts _ (List.mem_filter.mp q_a_int).1)
  obtain ⟨cL, kL, compL, l1, l2, l3⟩ := Cond.arrayClass_spec (hts _ (List.mem_filter.mp q_a_long).1)
  obtain ⟨compB, cB, kB, b1, b2, b3, b4, b5⟩ := Cond.arrayOver_spec (hts _ q_v_66)
  obtain ⟨compR, cR, kR, d1, d2, d3, d4, d5⟩ := Cond.arrayOver_spec (hts _ q_v_112)
  refine ⟨((fun k => if k = 0 then c0 else if k = 1 then c1 else if k = 2 then c2 else if k = 3 then c3 else if k = 4 then c4 else if k = 5 then c5 else cL, fun k => if k = 0 then i0 else if k = 1 then i1 else if k = 2 then i2 else if k = 3 then i3 else if k = 4 then i4 else if k = 5 then i5 else i5), cI, cR, cB), ⟨⟨fun k q hq => ?_, fun k q hq => ?_⟩, ⟨hts _ q_v_66, hts _ q_v_112⟩, fun w hw => ?_⟩⟩
  · match k, hq with
    | 0, hq => cases hq; exact k0
    | 1, hq => cases hq; exact k1
    | 2, hq => cases hq; exact k2
    | 3, hq => cases hq; exact k3
    | 4, hq => cases hq; exact k4
    | 5, hq => cases hq; exact k5
    | k + 6, hq => simp [vwCl] at hq
  · match k, hq with
    | 0, hq => cases hq; exact ⟨fun n z => ⟨fun k h => (by cases h), kI, a2, compI, a3⟩, a1⟩
    | 1, hq => cases hq; exact ⟨fun n z => ⟨fun k h => (by cases h), kR, d3, compR, d4⟩, kR, compR, d3, d4, d1, d5⟩
    | 2, hq => cases hq; exact ⟨fun n z => ⟨fun k h => (by cases h), kB, b3, compB, b4⟩, kB, compB, b3, b4, b1, b5⟩
    | 3, hq => cases hq; exact ⟨fun n z => ⟨fun k h => (by cases h), kL, l2, compL, l3⟩, l1⟩
    | k + 4, hq => simp at hq
  · obtain ⟨a, i, x, z, rfl⟩ := nwl_form w hw
    exact va_Nw.of rfl (hts _ (nwl_tbl _ hw))
set_option maxHeartbeats 4000000 in
set_option maxRecDepth 100000 in
theorem start_of {p : Program} {e : Env} {s : State} {m : MethodId} {below : List Frame} {meth : Method} {c : Code} (l : Launch) {b L : Nat} {xs : Nat → Int32} (hL : L ≤ 260) (C0 : lw_At p s m meth c b L xs) (hP : g_main xs L = some 1) : W p l e room_1 s m #[Value.ref b] below meth c s.heap [] 0 0 (lw_Z below #[Value.ref b] s) (entryFrame m ([Value.ref b] : List Value).toArray 21) := by
  obtain ⟨hx, hb, hr, hml, hown, hts, hX, hbl, hlocks, hgv⟩ := id C0
  obtain ⟨G, hKA⟩ := ka_start hts
  have hK := hKA.1
  have hC : Cx p s m #[Value.ref b] meth c code 21 RL := ⟨hx, hb, hml, hown, fun w hw => hts w (List.mem_filter.mp hw).1, hlocks⟩
  have key : Sim p l e room_1 s m #[Value.ref b] below meth c 21 (fun q => s.heap.size ≤ q) (QL below b s) 0 0 (fun H => H = s.heap) 0 [(0, .ref b)] [] (g_main xs L) := by
    unfold g_main
    generalize hsz : s.heap.size = x
    have hF0 : FrS x (fun _ => True) := fun _ _ _ _ _ => trivial
    refine s_I (I' := Cl G x [] (fun _ => True)) (fun H h => cl_nil (by rw [h]; exact hsz) trivial) ?_
    refine n_new (es' := [.inr (5, [.null, .null, .null, .null, .null])]) hC hK hF0 (i := 0) rfl rfl q_w_X4 tyX4_ok q_l_L_54 q_o_X4 q_i_X4 (fun j hj => by rcases (show j = 0 ∨ j = 1 ∨ j = 2 ∨ j = 3 ∨ j = 4 by omega) with rfl | rfl | rfl | rfl | rfl <;> rfl) rfl dL_law_0 ⟨Nat.le_of_ble_eq_true rfl, Nat.le_of_ble_eq_true rfl⟩ ?_
    refine s_dup hC dL_law_3 rfl ?_
    refine n_callX hC hKA hF0 (fun q hq => hq) q_m_L_109 ⟨Nat.le_of_ble_eq_true rfl, Nat.le_of_ble_eq_true rfl⟩ (Nat.le_of_ble_eq_true rfl) dL_law_4 ⟨Nat.le_of_ble_eq_true rfl, Nat.le_of_ble_eq_true rfl⟩ (fun z hz1 hz2 hz3 => ?_)
    refine s_astore_n (L' := [(1, .ref (x + 0)), (0, .ref b)]) hC dL_law_7 rfl (by decide) rfl ?_
    have hF1 : FrS (x + 205) (fun H => ∃ H0, X4new G x (fun _ => True) z H0 ∧ ∀ q, q < x + 205 → H[q]? = H0[q]?) := fun H H1 ⟨H0, h1, h2⟩ _ ho => ⟨H0, h1, fun q hq => (ho q hq).trans (h2 q hq)⟩
    refine s_I (I' := Cl G (x + 205) [] (fun H => ∃ H0, X4new G x (fun _ => True) z H0 ∧ ∀ q, q < x + 205 → H[q]? = H0[q]?)) (fun H h => cl_nil h.1 ⟨H, h, fun _ _ => rfl⟩) ?_
    refine s_iconst hC dL_law_8 ?_
    refine n_newa (es' := [ia G 4 (fun _ => 0)]) hC hK hF1 (i := 0) rfl (N' := 4) rfl (by decide) rfl dL_law_9 ⟨Nat.le_of_ble_eq_true rfl, Nat.le_of_ble_eq_true rfl⟩ ?_
    refine s_astore_n (L' := [(2, .ref (x + 205 + 0)), (1, .ref (x + 0)), (0, .ref b)]) hC dL_law_11 rfl (by decide) rfl ?_
    refine s_bipush hC dL_law_12 (by decide) ?_
    refine n_newa (es' := [ia G 4 (fun _ => 0), ia G 28 (fun _ => 0)]) hC hK hF1 (i := 1) rfl (N' := 28) rfl (by decide) rfl dL_law_14 ⟨Nat.le_of_ble_eq_true rfl, Nat.le_of_ble_eq_true rfl⟩ ?_
    refine s_astore_n (L' := [(3, .ref (x + 205 + 1)), (2, .ref (x + 205 + 0)), (1, .ref (x + 0)), (0, .ref b)]) hC dL_law_16 rfl (by decide) rfl ?_
    refine s_bipush hC dL_law_17 (by decide) ?_
    refine n_newa (es' := [ia G 4 (fun _ => 0), ia G 28 (fun _ => 0), ia G 64 (fun _ => 0)]) hC hK hF1 (i := 2) rfl (N' := 64) rfl (by decide) rfl dL_law_19 ⟨Nat.le_of_ble_eq_true rfl, Nat.le_of_ble_eq_true rfl⟩ ?_
    refine s_astore (L' := [(4, .ref (x + 205 + 2)), (3, .ref (x + 205 + 1)), (2, .ref (x + 205 + 0)), (1, .ref (x + 0)), (0, .ref b)]) hC dL_law_21 (by decide) rfl ?_
    refine s_iconst hC dL_law_23 ?_
    refine n_newa (es' := [ia G 4 (fun _ => 0), ia G 28 (fun _ => 0), ia G 64 (fun _ => 0), ia G 4 (fun _ => 0)]) hC hK hF1 (i := 3) rfl (N' := 4) rfl (by decide) rfl dL_law_24 ⟨Nat.le_of_ble_eq_true rfl, Nat.le_of_ble_eq_true rfl⟩ ?_
    refine s_astore (L' := [(5, .ref (x + 205 + 3)), (4, .ref (x + 205 + 2)), (3, .ref (x + 205 + 1)), (2, .ref (x + 205 + 0)), (1, .ref (x + 0)), (0, .ref b)]) hC dL_law_26 (by decide) rfl ?_
    refine s_bipush hC dL_law_28 (by decide) ?_
    refine n_newa (es' := [ia G 4 (fun _ => 0), ia G 28 (fun _ => 0), ia G 64 (fun _ => 0), ia G 4 (fun _ => 0), ia G 28 (fun _ => 0)]) hC hK hF1 (i := 4) rfl (N' := 28) rfl (by decide) rfl dL_law_30 ⟨Nat.le_of_ble_eq_true rfl, Nat.le_of_ble_eq_true rfl⟩ ?_
    refine s_astore (L' := [(6, .ref (x + 205 + 4)), (5, .ref (x + 205 + 3)), (4, .ref (x + 205 + 2)), (3, .ref (x + 205 + 1)), (2, .ref (x + 205 + 0)), (1, .ref (x + 0)), (0, .ref b)]) hC dL_law_32 (by decide) rfl ?_
    refine s_bipush hC dL_law_34 (by decide) ?_
    refine n_newa (es' := [ia G 4 (fun _ => 0), ia G 28 (fun _ => 0), ia G 64 (fun _ => 0), ia G 4 (fun _ => 0), ia G 28 (fun _ => 0), ia G 64 (fun _ => 0)]) hC hK hF1 (i := 5) rfl (N' := 64) rfl (by decide) rfl dL_law_36 ⟨Nat.le_of_ble_eq_true rfl, Nat.le_of_ble_eq_true rfl⟩ ?_
    refine s_astore (L' := [(7, .ref (x + 205 + 5)), (6, .ref (x + 205 + 4)), (5, .ref (x + 205 + 3)), (4, .ref (x + 205 + 2)), (3, .ref (x + 205 + 1)), (2, .ref (x + 205 + 0)), (1, .ref (x + 0)), (0, .ref b)]) hC dL_law_38 (by decide) rfl ?_
    refine s_bipush hC dL_law_40 (by decide) ?_
    refine n_newaL (es' := [ia G 4 (fun _ => 0), ia G 28 (fun _ => 0), ia G 64 (fun _ => 0), ia G 4 (fun _ => 0), ia G 28 (fun _ => 0), ia G 64 (fun _ => 0), la G 12 (tau0 6)]) hC hK hF1 (i := 6) rfl rfl dL_law_42 ⟨Nat.le_of_ble_eq_true rfl, Nat.le_of_ble_eq_true rfl⟩ ?_
    refine s_astore (L' := [(8, .ref (x + 205 + 6)), (7, .ref (x + 205 + 5)), (6, .ref (x + 205 + 4)), (5, .ref (x + 205 + 3)), (4, .ref (x + 205 + 2)), (3, .ref (x + 205 + 1)), (2, .ref (x + 205 + 0)), (1, .ref (x + 0)), (0, .ref b)]) hC dL_law_44 (by decide) rfl ?_
    refine s_I (I' := VL G x z.1 (Bst z) 2 tau0) (fun H h => vl_start h) ?_
    refine s_sub (L' := [(0, .ref b), (1, .ref (x + 0)), (2, .ref (x + 205 + 0)), (3, .ref (x + 205 + 1)), (4, .ref (x + 205 + 2)), (5, .ref (x + 205 + 3)), (6, .ref (x + 205 + 4)), (7, .ref (x + 205 + 5)), (8, .ref (x + 205 + 6))]) [8, 7, 6, 5, 4, 3, 2, 1, 0] rfl ?_
    refine s_widen (k' := 300) (n' := 8500) (Nat.le_of_ble_eq_true rfl) (Nat.le_of_ble_eq_true rfl) ?_
    subst hsz
    exact m_law hC hKA hr hX hbl (by omega) (Nat.le_refl _) hz1 (rg_Bst hz2 hz3) (by decide) rg_tau0
  rw [lg_entry_eq]
  have h1 := key 1 hP s.heap [] _ rfl va_S.rf (lv_entry [.ref b] (Nat.le_of_ble_eq_true rfl))
  intro T hT X
  obtain ⟨t, h2, h3⟩ := h1 T hT X
  exact ⟨t, h2, h3 rfl⟩
