theorem dd_yX3_init : yX3_init.cls ≠ "java/lang/invoke/MethodHandle" ∧ yX3_init.cls ≠ "java/lang/invoke/VarHandle" ∧ (parseMethodDescriptor yX3_init.desc).map (fun d => d.parameters.length) = some 0 := by decide +kernel
set_option maxHeartbeats 4000000 in
set_option maxRecDepth 100000 in
theorem m_X3_init {l : Launch} {G : Gt} {b : Nat} {F : Heap → Prop} (hF : FrS b F) : MetS l yX3_init cX3_init 1 none { frames := 1, cells := 4, slots := 1210, locals := 23 } G [.ref (b + 0)] (Cl G b [.inr (3, [.null, .null, .null, .null])] F) (poU (JC G (layPg G b) 5 b F)) (fun q => b ≤ q) 4 1210 g_X3_init := by
  refine met_of (by decide) (Nat.le_of_ble_eq_true rfl) ?_
  intro p e s m below meth c hC hKA hr hnm
  have hK := hKA.1
  unfold g_X3_init
  refine s_sub (L' := [(0, .ref (b + 0))]) [0] rfl ?_
  refine s_aload_n hC dX3_init_0 rfl 0 rfl ?_
  refine n_obj hC q_m_X3_3 dX3_init_1 (Nat.le_of_ble_eq_true rfl) (Nat.le_of_ble_eq_true rfl) ?_
  refine s_aload_n hC dX3_init_4 rfl 0 rfl ?_
  refine s_sipush hC dX3_init_5 (by decide) ?_
  refine n_newa (es' := [.inr (3, [.null, .null, .null, .null]), ia G 400 (fun _ => 0)]) hC hK hF (i := 1) rfl (N' := 400) rfl (by decide) rfl dX3_init_8 ⟨Nat.le_of_ble_eq_true rfl, Nat.le_of_ble_eq_true rfl⟩ ?_
  refine n_put (es' := [.inr (3, [.ref (b + 1), .null, .null, .null]), ia G 400 (fun _ => 0)]) (ty := .array (.int)) hC hK hF (fun _ h => h) (i := 0) rfl rfl q_w_X3 tyX3_ok nmX3 0 (by decide) q_f_X3_9 (by first | exact Or.inl rfl | exact Or.inr ⟨rfl, hnm, rfl⟩) (by decide +kernel) rfl rfl (Nat.le_of_ble_eq_true rfl) rfl dX3_init_10 ?_
  refine s_aload_n hC dX3_init_13 rfl 0 rfl ?_
  refine s_sipush hC dX3_init_14 (by decide) ?_
  refine n_newa (es' := [.inr (3, [.ref (b + 1), .null, .null, .null]), ia G 400 (fun _ => 0), ia G 400 (fun _ => 0)]) hC hK hF (i := 2) rfl (N' := 400) rfl (by decide) rfl dX3_init_17 ⟨Nat.le_of_ble_eq_true rfl, Nat.le_of_ble_eq_true rfl⟩ ?_
  refine n_put (es' := [.inr (3, [.ref (b + 1), .ref (b + 2), .null, .null]), ia G 400 (fun _ => 0), ia G 400 (fun _ => 0)]) (ty := .array (.int)) hC hK hF (fun _ h => h) (i := 0) rfl rfl q_w_X3 tyX3_ok nmX3 1 (by decide) q_f_X3_15 (by first | exact Or.inl rfl | exact Or.inr ⟨rfl, hnm, rfl⟩) (by decide +kernel) rfl rfl (Nat.le_of_ble_eq_true rfl) rfl dX3_init_19 ?_
  refine s_aload_n hC dX3_init_22 rfl 0 rfl ?_
  refine s_sipush hC dX3_init_23 (by decide) ?_
  refine n_newa (es' := [.inr (3, [.ref (b + 1), .ref (b + 2), .null, .null]), ia G 400 (fun _ => 0), ia G 400 (fun _ => 0), ia G 400 (fun _ => 0)]) hC hK hF (i := 3) rfl (N' := 400) rfl (by decide) rfl dX3_init_26 ⟨Nat.le_of_ble_eq_true rfl, Nat.le_of_ble_eq_true rfl⟩ ?_
  refine n_put (es' := [.inr (3, [.ref (b + 1), .ref (b + 2), .ref (b + 3), .null]), ia G 400 (fun _ => 0), ia G 400 (fun _ => 0), ia G 400 (fun _ => 0)]) (ty := .array (.int)) hC hK hF (fun _ h => h) (i := 0) rfl rfl q_w_X3 tyX3_ok nmX3 2 (by decide) q_f_X3_18 (by first | exact Or.inl rfl | exact Or.inr ⟨rfl, hnm, rfl⟩) (by decide +kernel) rfl rfl (Nat.le_of_ble_eq_true rfl) rfl dX3_init_28 ?_
  refine s_aload_n hC dX3_init_31 rfl 0 rfl ?_
  refine s_bipush hC dX3_init_32 (by decide) ?_
  refine n_newa (es' := [.inr (3, [.ref (b + 1), .ref (b + 2), .ref (b + 3), .null]), ia G 400 (fun _ => 0), ia G 400 (fun _ => 0), ia G 400 (fun _ => 0), ia G 10 (fun _ => 0)]) hC hK hF (i := 4) rfl (N' := 10) rfl (by decide) rfl dX3_init_34 ⟨Nat.le_of_ble_eq_true rfl, Nat.le_of_ble_eq_true rfl⟩ ?_
  refine n_put (es' := [.inr (3, [.ref (b + 1), .ref (b + 2), .ref (b + 3), .ref (b + 4)]), ia G 400 (fun _ => 0), ia G 400 (fun _ => 0), ia G 400 (fun _ => 0), ia G 10 (fun _ => 0)]) (ty := .array (.int)) hC hK hF (fun _ h => h) (i := 0) rfl rfl q_w_X3 tyX3_ok nmX3 3 (by decide) q_f_X3_21 (by first | exact Or.inl rfl | exact Or.inr ⟨rfl, hnm, rfl⟩) (by decide +kernel) rfl rfl (Nat.le_of_ble_eq_true rfl) rfl dX3_init_36 ?_
  refine s_aload_n hC dX3_init_39 rfl 0 rfl ?_
  refine s_I (I' := JC G (layPg G b) 5 b F (fun _ _ => 0)) (fun H h => h) ?_
  refine s_get hC hK ((JC.wd hF).1 _) (by decide) o_Pg rfl q_w_X3 3 (by decide) q_f_X3_21 rfl dX3_init_40 ?_
  refine s_bipush hC dX3_init_43 (by decide) ?_
  refine s_callS_U (As := [.ref (b + 4), vI 40]) (rest := []) hC hKA 2 (m_J7_fill_53178 (JC.wd hF) rg_0 (by decide) a_Pg_4 (inR_c _ rfl)) (fun _ h => h.1) rfl (cb_of hC 2 q_c_yJ7_fill_53178 q_i_J7 q_m_X3_24 rfl rfl dd_yJ7_fill_53178 ⟨Nat.le_of_ble_eq_true rfl, Nat.le_of_ble_eq_true rfl⟩) q_s_yJ7_fill_53178 rfl (Nat.le_of_ble_eq_true rfl) dX3_init_45 ⟨Nat.le_of_ble_eq_true rfl, Nat.le_of_ble_eq_true rfl⟩ (fun σ1 hσ1 => ?_)
  exact s_vret hC hr dX3_init_48 (fun H hH => ⟨rfl, hσ1, hH⟩)
theorem dd_yX7_init : yX7_init.cls ≠ "java/lang/invoke/MethodHandle" ∧ yX7_init.cls ≠ "java/lang/invoke/VarHandle" ∧ (parseMethodDescriptor yX7_init.desc).map (fun d => d.parameters.length) = some 0 := by decide +kernel
set_option maxHeartbeats 4000000 in
set_option maxRecDepth 100000 in
theorem m_X7_init {l : Launch} {G : Gt} {b : Nat} {F : Heap → Prop} (hF : FrS b F) : MetS l yX7_init cX7_init 1 none { frames := 1, cells := 2, slots := 80, locals := 20 } G [.ref (b + 0)] (Cl G b [.inr (4, [vI 0, vI 0, vI 0, vI 0, vI 0, .null, .null])] F) (poU (JC G (layRw G b) 3 b F)) (fun q => b ≤ q) 2 80 g_X7_init := by
  refine met_of (by decide) (Nat.le_of_ble_eq_true rfl) ?_
  intro p e s m below meth c hC hKA hr hnm
  have hK := hKA.1
  unfold g_X7_init
  refine s_sub (L' := [(0, .ref (b + 0))]) [0] rfl ?_
  refine s_aload_n hC dX7_init_0 rfl 0 rfl ?_
  refine n_obj hC q_m_X7_3 dX7_init_1 (Nat.le_of_ble_eq_true rfl) (Nat.le_of_ble_eq_true rfl) ?_
  refine s_aload_n hC dX7_init_4 rfl 0 rfl ?_
  refine s_iconst hC dX7_init_5 ?_
  refine n_put (es' := [.inr (4, [vI ((-1)), vI 0, vI 0, vI 0, vI 0, .null, .null])]) (ty := .int) hC hK hF (fun _ h => h) (i := 0) rfl rfl q_w_X7 tyX7_ok nmX7 0 (by decide) q_f_X7_9 (by first | exact Or.inl rfl | exact Or.inr ⟨rfl, hnm, rfl⟩) (by decide +kernel) rfl rfl (Nat.le_of_ble_eq_true rfl) rfl dX7_init_6 ?_
  refine s_aload_n hC dX7_init_9 rfl 0 rfl ?_
  refine s_iconst hC dX7_init_10 ?_
  refine n_put (es' := [.inr (4, [vI ((-1)), vI 0, vI 0, vI 0, vI 0, .null, .null])]) (ty := .int) hC hK hF (fun _ h => h) (i := 0) rfl rfl q_w_X7 tyX7_ok nmX7 1 (by decide) q_f_X7_15 (by first | exact Or.inl rfl | exact Or.inr ⟨rfl, hnm, rfl⟩) (by decide +kernel) rfl rfl (Nat.le_of_ble_eq_true rfl) rfl dX7_init_11 ?_
  refine s_aload_n hC dX7_init_14 rfl 0 rfl ?_
  refine s_iconst hC dX7_init_15 ?_
  refine n_put (es' := [.inr (4, [vI ((-1)), vI 0, vI ((-1)), vI 0, vI 0, .null, .null])]) (ty := .int) hC hK hF (fun _ h => h) (i := 0) rfl rfl q_w_X7 tyX7_ok nmX7 2 (by decide) q_f_X7_18 (by first | exact Or.inl rfl | exact Or.inr ⟨rfl, hnm, rfl⟩) (by decide +kernel) rfl rfl (Nat.le_of_ble_eq_true rfl) rfl dX7_init_16 ?_
  refine s_aload_n hC dX7_init_19 rfl 0 rfl ?_
  refine s_iconst hC dX7_init_20 ?_
  refine n_put (es' := [.inr (4, [vI ((-1)), vI 0, vI ((-1)), vI ((-1)), vI 0, .null, .null])]) (ty := .int) hC hK hF (fun _ h => h) (i := 0) rfl rfl q_w_X7 tyX7_ok nmX7 3 (by decide) q_f_X7_21 (by first | exact Or.inl rfl | exact Or.inr ⟨rfl, hnm, rfl⟩) (by decide +kernel) rfl rfl (Nat.le_of_ble_eq_true rfl) rfl dX7_init_21 ?_
  refine s_aload_n hC dX7_init_24 rfl 0 rfl ?_
  refine s_iconst hC dX7_init_25 ?_
  refine n_put (es' := [.inr (4, [vI ((-1)), vI 0, vI ((-1)), vI ((-1)), vI 0, .null, .null])]) (ty := .int) hC hK hF (fun _ h => h) (i := 0) rfl rfl q_w_X7 tyX7_ok nmX7 4 (by decide) q_f_X7_24 (by first | exact Or.inl rfl | exact Or.inr ⟨rfl, hnm, rfl⟩) (by decide +kernel) rfl rfl (Nat.le_of_ble_eq_true rfl) rfl dX7_init_26 ?_
  refine s_aload_n hC dX7_init_29 rfl 0 rfl ?_
  refine s_bipush hC dX7_init_30 (by decide) ?_
  refine n_newa (es' := [.inr (4, [vI ((-1)), vI 0, vI ((-1)), vI ((-1)), vI 0, .null, .null]), ia G 40 (fun _ => 0)]) hC hK hF (i := 1) rfl (N' := 40) rfl (by decide) rfl dX7_init_32 ⟨Nat.le_of_ble_eq_true rfl, Nat.le_of_ble_eq_true rfl⟩ ?_
  refine n_put (es' := [.inr (4, [vI ((-1)), vI 0, vI ((-1)), vI ((-1)), vI 0, .ref (b + 1), .null]), ia G 40 (fun _ => 0)]) (ty := .array (.int)) hC hK hF (fun _ h => h) (i := 0) rfl rfl q_w_X7 tyX7_ok nmX7 5 (by decide) q_f_X7_27 (by first | exact Or.inl rfl | exact Or.inr ⟨rfl, hnm, rfl⟩) (by decide +kernel) rfl rfl (Nat.le_of_ble_eq_true rfl) rfl dX7_init_34 ?_
  refine s_aload_n hC dX7_init_37 rfl 0 rfl ?_
  refine s_bipush hC dX7_init_38 (by decide) ?_
  refine n_newa (es' := [.inr (4, [vI ((-1)), vI 0, vI ((-1)), vI ((-1)), vI 0, .ref (b + 1), .null]), ia G 40 (fun _ => 0), ia G 40 (fun _ => 0)]) hC hK hF (i := 2) rfl (N' := 40) rfl (by decide) rfl dX7_init_40 ⟨Nat.le_of_ble_eq_true rfl, Nat.le_of_ble_eq_true rfl⟩ ?_
  refine n_put (es' := [.inr (4, [vI ((-1)), vI 0, vI ((-1)), vI ((-1)), vI 0, .ref (b + 1), .ref (b + 2)]), ia G 40 (fun _ => 0), ia G 40 (fun _ => 0)]) (ty := .array (.int)) hC hK hF (fun _ h => h) (i := 0) rfl rfl q_w_X7 tyX7_ok nmX7 6 (by decide) q_f_X7_31 (by first | exact Or.inl rfl | exact Or.inr ⟨rfl, hnm, rfl⟩) (by decide +kernel) rfl rfl (Nat.le_of_ble_eq_true rfl) rfl dX7_init_42 ?_
  refine s_I (I' := JC G (layRw G b) 3 b F iniR) (fun H h => h) ?_
  exact s_vret hC hr dX7_init_45 (fun H hH => ⟨rfl, rg_iniR, hH⟩)
/-! a Book's cells while its rows are made: n rows stand -/
def bkE (G : Gt) (b : Nat) (σ1 : Blk) (n : Nat) : List va_E := [.inr (0, [vI 6, vI 8, vI 0, .ref (b + 1), .ref (b + 6), .ref (b + 7)]), layPg G (b + 1) 0 (σ1 0), layPg G (b + 1) 1 (σ1 1), layPg G (b + 1) 2 (σ1 2), layPg G (b + 1) 3 (σ1 3), layPg G (b + 1) 4 (σ1 4), .inl (G.2.2.1, (30, .inr (.inr (.inr (.inr (fun j => if j < n then some (b + (8 + 3 * j)) else none)))))), ia G 100 (fun _ => 0)] ++ (List.range (3 * n)).map (fun i => layBook G b (8 + i) (iniBk σ1 (8 + i)))
theorem bkE_len {G : Gt} {b n : Nat} {σ1 : Blk} : (bkE G b σ1 n).length = 8 + 3 * n := by
  unfold bkE
  rw [List.length_append, List.length_map, List.length_range]
  rfl
theorem bkE_0 {G : Gt} {b : Nat} {σ1 : Blk} (n : Nat) : (bkE G b σ1 n)[0]? = some (.inr (0, [vI 6, vI 8, vI 0, .ref (b + 1), .ref (b + 6), .ref (b + 7)])) := rfl
theorem bkE_6 {G : Gt} {b n : Nat} {σ1 : Blk} {es : List va_E} : (bkE G b σ1 n ++ es)[6]? = some (.inl (G.2.2.1, (30, .inr (.inr (.inr (.inr (fun j => if j < n then some (b + (8 + 3 * j)) else none))))))) := rfl
theorem bkE_r {G : Gt} {b n : Nat} {σ1 : Blk} : (bkE G b σ1 n ++ lsL (layRw G (b + (8 + 3 * n))) 3 iniR)[8 + 3 * n]? = some (.inr (4, [vI (-1), vI 0, vI (-1), vI (-1), vI 0, .ref (b + (8 + 3 * n) + 1), .ref (b + (8 + 3 * n) + 2)])) := by
  rw [List.getElem?_append_right (by rw [bkE_len]; omega), bkE_len, Nat.sub_self]
  rfl
theorem bkE_row {G : Gt} {b n : Nat} {σ1 : Blk} : lsL (layRw G (b + (8 + 3 * n))) 3 iniR = [layBook G b (8 + 3 * n) (iniBk σ1 (8 + 3 * n)), layBook G b (8 + (3 * n + 1)) (iniBk σ1 (8 + (3 * n + 1))), layBook G b (8 + (3 * n + 2)) (iniBk σ1 (8 + (3 * n + 2)))] := by
  have e0 : iniBk σ1 (8 + 3 * n) = iniR 0 := by
    funext j
    unfold iniBk
    rw [if_neg (by omega), if_neg (by omega), if_neg (by omega), if_pos (by omega)]
  have e1 : iniBk σ1 (8 + (3 * n + 1)) = iniR 1 := by
    funext j
    unfold iniBk
    rw [if_neg (by omega), if_neg (by omega), if_neg (by omega), if_neg (by omega)]
    rfl
  have e2 : iniBk σ1 (8 + (3 * n + 2)) = iniR 2 := by
    funext j
    unfold iniBk
    rw [if_neg (by omega), if_neg (by omega), if_neg (by omega), if_neg (by omega)]
    rfl
  rw [e0, e1, e2, show 8 + (3 * n + 1) = 9 + 3 * n by omega, show 8 + (3 * n + 2) = 10 + 3 * n by omega, o_Row, a_Spots.2, a_Text.2]
  show [layRw G (b + (8 + 3 * n)) 0 (iniR 0), layRw G (b + (8 + 3 * n)) 1 (iniR 1), layRw G (b + (8 + 3 * n)) 2 (iniR 2)] = _
  unfold fsRow
  rw [show b + (9 + 3 * n) = b + (8 + 3 * n) + 1 by omega, show b + (10 + 3 * n) = b + (8 + 3 * n) + 2 by omega]
  rfl
theorem bkE_step {G : Gt} {b n d : Nat} {σ1 : Blk} (hn : n + (d + 1) = 30) : (bkE G b σ1 n ++ lsL (layRw G (b + (8 + 3 * n))) 3 iniR).set 6 (.inl (G.2.2.1, (30, .inr (.inr (.inr (.inr (fun q => if q = n then some (b + (8 + 3 * n)) else if q < n then some (b + (8 + 3 * q)) else none))))))) = bkE G b σ1 (n + 1) := by
  have ef : (fun q => if q = n then some (b + (8 + 3 * n)) else if q < n then some (b + (8 + 3 * q)) else none) = fun q => if q < n + 1 then some (b + (8 + 3 * q)) else none := by
    funext q
    by_cases e : q = n
    · rw [if_pos e, if_pos (by omega), e]
    · rw [if_neg e]
      by_cases e2 : q < n
      · rw [if_pos e2, if_pos (by omega)]
      · rw [if_neg e2, if_neg (by omega)]
  rw [ef, bkE_row (σ1 := σ1)]
  have er : (List.range (3 * (n + 1))).map (fun i => layBook G b (8 + i) (iniBk σ1 (8 + i))) = (List.range (3 * n)).map (fun i => layBook G b (8 + i) (iniBk σ1 (8 + i))) ++ [layBook G b (8 + 3 * n) (iniBk σ1 (8 + 3 * n)), layBook G b (8 + (3 * n + 1)) (iniBk σ1 (8 + (3 * n + 1))), layBook G b (8 + (3 * n + 2)) (iniBk σ1 (8 + (3 * n + 2)))] := by
    rw [show 3 * (n + 1) = 3 * n + 1 + 1 + 1 by omega, List.range_succ, List.range_succ, List.range_succ]
    simp
  unfold bkE
  rw [er]
  rfl
theorem bkE_end {G : Gt} {b : Nat} {σ1 : Blk} {F : Heap → Prop} {H : Heap} (h : Cl G b (bkE G b σ1 30) F H) : JC G (layBook G b) 98 b F (iniBk σ1) H := by
  have e : bkE G b σ1 30 = lsL (layBook G b) 98 (iniBk σ1) := by
    unfold lsL
    rw [show (98 : Nat) = 8 + 3 * 30 by decide, List.range_add, List.map_append, List.map_map]
    rfl
  unfold JC
  rw [← e]
  exact h

theorem dd_yX0_init : yX0_init.cls ≠ "java/lang/invoke/MethodHandle" ∧ yX0_init.cls ≠ "java/lang/invoke/VarHandle" ∧ (parseMethodDescriptor yX0_init.desc).map (fun d => d.parameters.length) = some 0 := by decide +kernel
set_option maxHeartbeats 4000000 in
set_option maxRecDepth 100000 in
theorem m_X0_init {l : Launch} {G : Gt} {b : Nat} {F : Heap → Prop} (hF : FrS b F) : MetS l yX0_init cX0_init 2 none { frames := 2, cells := 97, slots := 3954, locals := 43 } G [.ref (b + 0)] (Cl G b [.inr (0, [vI 0, vI 0, vI 0, .null, .null, .null])] F) (poU (JC G (layBook G b) 98 b F)) (fun q => b ≤ q) 97 3954 g_X0_init := by
  refine met_of (by decide) (Nat.le_of_ble_eq_true rfl) ?_
  intro p e s m below meth c hC hKA hr hnm
  have hK := hKA.1
  unfold g_X0_init
  refine s_sub (L' := [(0, .ref (b + 0))]) [0] rfl ?_
  refine s_aload_n hC dX0_init_0 rfl 0 rfl ?_
  refine n_obj hC q_m_X0_3 dX0_init_1 (Nat.le_of_ble_eq_true rfl) (Nat.le_of_ble_eq_true rfl) ?_
  refine s_aload_n hC dX0_init_4 rfl 0 rfl ?_
  refine s_bipush hC dX0_init_5 (by decide) ?_
  refine n_put (es' := [.inr (0, [vI 6, vI 0, vI 0, .null, .null, .null])]) (ty := .int) hC hK hF (fun _ h => h) (i := 0) rfl rfl q_w_X0 tyX0_ok nmX0 0 (by decide) q_f_X0_9 (by first | exact Or.inl rfl | exact Or.inr ⟨rfl, hnm, rfl⟩) (by decide +kernel) rfl rfl (Nat.le_of_ble_eq_true rfl) rfl dX0_init_7 ?_
  refine s_aload_n hC dX0_init_10 rfl 0 rfl ?_
  refine s_bipush hC dX0_init_11 (by decide) ?_
  refine n_put (es' := [.inr (0, [vI 6, vI 8, vI 0, .null, .null, .null])]) (ty := .int) hC hK hF (fun _ h => h) (i := 0) rfl rfl q_w_X0 tyX0_ok nmX0 1 (by decide) q_f_X0_15 (by first | exact Or.inl rfl | exact Or.inr ⟨rfl, hnm, rfl⟩) (by decide +kernel) rfl rfl (Nat.le_of_ble_eq_true rfl) rfl dX0_init_13 ?_
  refine s_aload_n hC dX0_init_16 rfl 0 rfl ?_
  refine s_iconst hC dX0_init_17 ?_
  refine n_put (es' := [.inr (0, [vI 6, vI 8, vI 0, .null, .null, .null])]) (ty := .int) hC hK hF (fun _ h => h) (i := 0) rfl rfl q_w_X0 tyX0_ok nmX0 2 (by decide) q_f_X0_18 (by first | exact Or.inl rfl | exact Or.inr ⟨rfl, hnm, rfl⟩) (by decide +kernel) rfl rfl (Nat.le_of_ble_eq_true rfl) rfl dX0_init_18 ?_
  refine s_aload_n hC dX0_init_21 rfl 0 rfl ?_
  refine n_new (es' := [.inr (0, [vI 6, vI 8, vI 0, .null, .null, .null]), .inr (3, [.null, .null, .null, .null])]) hC hK hF (i := 1) rfl rfl q_w_X3 tyX3_ok q_l_X0_21 q_o_X3 q_i_X3 (fun j hj => by rcases (show j = 0 ∨ j = 1 ∨ j = 2 ∨ j = 3 by omega) with rfl | rfl | rfl | rfl <;> rfl) rfl dX0_init_22 ⟨Nat.le_of_ble_eq_true rfl, Nat.le_of_ble_eq_true rfl⟩ ?_
  refine s_dup hC dX0_init_25 rfl ?_
  refine n_callC (y := yX3_init) (i := 1) (lay := layPg G (b + 1)) (N := 5) (pre := [.inr (0, [vI 6, vI 8, vI 0, .null, .null, .null])]) hC hKA hF (fun _ h => h) (fun F' hF' => m_X3_init hF') rfl rfl (cb_of hC 0 q_c_yX3_init q_i_X3 q_m_X0_23 rfl rfl dd_yX3_init ⟨Nat.le_of_ble_eq_true rfl, Nat.le_of_ble_eq_true rfl⟩) rfl q_i_yX3_init (Nat.le_of_ble_eq_true rfl) dX0_init_26 ⟨Nat.le_of_ble_eq_true rfl, Nat.le_of_ble_eq_true rfl⟩ (fun σ1 hσ1 => ?_)
  refine s_I (I' := Cl G b ([.inr (0, [vI 6, vI 8, vI 0, .null, .null, .null]), layPg G (b + 1) 0 (σ1 0), layPg G (b + 1) 1 (σ1 1), layPg G (b + 1) 2 (σ1 2), layPg G (b + 1) 3 (σ1 3), layPg G (b + 1) 4 (σ1 4)]) F) (fun H h => h) ?_
  refine n_put (es' := [.inr (0, [vI 6, vI 8, vI 0, .ref (b + 1), .null, .null]), layPg G (b + 1) 0 (σ1 0), layPg G (b + 1) 1 (σ1 1), layPg G (b + 1) 2 (σ1 2), layPg G (b + 1) 3 (σ1 3), layPg G (b + 1) 4 (σ1 4)]) (ty := .object "OverflowRows$Pages") hC hK hF (fun _ h => h) (i := 0) rfl rfl q_w_X0 tyX0_ok nmX0 3 (by decide) q_f_X0_24 (by first | exact Or.inl rfl | exact Or.inr ⟨rfl, hnm, rfl⟩) (by decide +kernel) rfl rfl (Nat.le_of_ble_eq_true rfl) rfl dX0_init_29 ?_
  refine s_aload_n hC dX0_init_32 rfl 0 rfl ?_
  refine s_bipush hC dX0_init_33 (by decide) ?_
  refine n_newqR (es' := [.inr (0, [vI 6, vI 8, vI 0, .ref (b + 1), .null, .null]), layPg G (b + 1) 0 (σ1 0), layPg G (b + 1) 1 (σ1 1), layPg G (b + 1) 2 (σ1 2), layPg G (b + 1) 3 (σ1 3), layPg G (b + 1) 4 (σ1 4), .inl (G.2.2.1, (30, .inr (.inr (.inr (.inr (fun _ => none))))))]) hC hKA hF (i := 6) rfl (N' := 30) rfl (by decide) q_l_X0_28 rfl dX0_init_35 ⟨Nat.le_of_ble_eq_true rfl, Nat.le_of_ble_eq_true rfl⟩ ?_
  refine n_put (es' := [.inr (0, [vI 6, vI 8, vI 0, .ref (b + 1), .ref (b + 6), .null]), layPg G (b + 1) 0 (σ1 0), layPg G (b + 1) 1 (σ1 1), layPg G (b + 1) 2 (σ1 2), layPg G (b + 1) 3 (σ1 3), layPg G (b + 1) 4 (σ1 4), .inl (G.2.2.1, (30, .inr (.inr (.inr (.inr (fun _ => none))))))]) (ty := .array (.object "OverflowRows$Row")) hC hK hF (fun _ h => h) (i := 0) rfl rfl q_w_X0 tyX0_ok nmX0 4 (by decide) q_f_X0_30 (by first | exact Or.inl rfl | exact Or.inr ⟨rfl, hnm, rfl⟩) (by decide +kernel) rfl rfl (Nat.le_of_ble_eq_true rfl) rfl dX0_init_38 ?_
  refine s_aload_n hC dX0_init_41 rfl 0 rfl ?_
  refine s_bipush hC dX0_init_42 (by decide) ?_
  refine n_newa (es' := [.inr (0, [vI 6, vI 8, vI 0, .ref (b + 1), .ref (b + 6), .null]), layPg G (b + 1) 0 (σ1 0), layPg G (b + 1) 1 (σ1 1), layPg G (b + 1) 2 (σ1 2), layPg G (b + 1) 3 (σ1 3), layPg G (b + 1) 4 (σ1 4), .inl (G.2.2.1, (30, .inr (.inr (.inr (.inr (fun _ => none)))))), ia G 100 (fun _ => 0)]) hC hK hF (i := 7) rfl (N' := 100) rfl (by decide) rfl dX0_init_44 ⟨Nat.le_of_ble_eq_true rfl, Nat.le_of_ble_eq_true rfl⟩ ?_
  refine n_put (es' := [.inr (0, [vI 6, vI 8, vI 0, .ref (b + 1), .ref (b + 6), .ref (b + 7)]), layPg G (b + 1) 0 (σ1 0), layPg G (b + 1) 1 (σ1 1), layPg G (b + 1) 2 (σ1 2), layPg G (b + 1) 3 (σ1 3), layPg G (b + 1) 4 (σ1 4), .inl (G.2.2.1, (30, .inr (.inr (.inr (.inr (fun _ => none)))))), ia G 100 (fun _ => 0)]) (ty := .array (.int)) hC hK hF (fun _ h => h) (i := 0) rfl rfl q_w_X0 tyX0_ok nmX0 5 (by decide) q_f_X0_34 (by first | exact Or.inl rfl | exact Or.inr ⟨rfl, hnm, rfl⟩) (by decide +kernel) rfl rfl (Nat.le_of_ble_eq_true rfl) rfl dX0_init_46 ?_
  refine s_iconst hC dX0_init_49 ?_
  refine s_istore_n (L' := [(1, vI 0), (0, .ref (b + 0))]) hC dX0_init_50 rfl (by decide) rfl ?_
  refine s_sub (L' := [(0, .ref (b + 0)), (1, vI 0)]) [1, 0] rfl ?_
  refine s_I (I' := Cl G b (bkE G b σ1 0) F) (fun H h => h) ?_
  have key : ∀ d n : Nat, n + d = 30 → Sim p l e { frames := 2, cells := 97, slots := 3954, locals := 43 } s m [Value.ref (b + 0)].toArray below meth c 2 (fun q => b ≤ q) (fun x => MQ below (Qm (poU (JC G (layBook G b) 98 b F) x) (fun q => b ≤ q)) [Value.ref (b + 0)].toArray s 97 3954 (fun q => b ≤ q)) (97 - 3 * d) (3954 - 87 * d) (Cl G b (bkE G b σ1 n) F) 51 [(0, .ref (b + 0)), (1, vI (n : Int))] [] (Option.bind (f_J7_fill_53178 (iniBk σ1) 7 100 (-1)) fun σ2 => some σ2) := by
    intro d
    induction d with
    | zero =>
      intro n hn
      have en : n = 30 := by omega
      subst en
      refine s_iload_n hC dX0_init_51 rfl 1 rfl ?_
      refine s_bipush hC dX0_init_52 (by decide) ?_
      refine s_ite0m (φ := (30 : Int) ≤ ((30 : Nat) : Int)) (by decide) ?_
      refine s_icmp_ge (K2 := none) (tgt := 76) hC dX0_init_54 (by decide) ⟨by omega, by omega⟩ (inR_c _ rfl) ?_ s_none
      refine s_I (I' := JC G (layBook G b) 98 b F (iniBk σ1)) (fun H h => bkE_end h) ?_
      refine s_aload_n hC dX0_init_76 rfl 0 rfl ?_
      refine s_get hC hK ((JC.wd hF).1 _) (by decide) o_Book rfl q_w_X0 5 (by decide) q_f_X0_34 rfl dX0_init_77 ?_
      refine s_iconst hC dX0_init_80 ?_
      refine s_callS_U (As := [.ref (b + 7), vI (-1)]) (rest := []) hC hKA 2 (m_J7_fill_53178 (JC.wd hF) (rg_iniBk hσ1) (by decide) a_Book_7 (inR_c _ rfl)) (fun _ h => h.1) rfl (cb_of hC 2 q_c_yJ7_fill_53178 q_i_J7 q_m_X0_39 rfl rfl dd_yJ7_fill_53178 ⟨Nat.le_of_ble_eq_true rfl, Nat.le_of_ble_eq_true rfl⟩) q_s_yJ7_fill_53178 rfl (Nat.le_of_ble_eq_true rfl) dX0_init_81 ⟨Nat.le_of_ble_eq_true rfl, Nat.le_of_ble_eq_true rfl⟩ (fun σ2 hσ2 => ?_)
      exact s_vret hC hr dX0_init_84 (fun H hH => ⟨rfl, hσ2, hH⟩)
    | succ d ih =>
      intro n hn
      refine s_iload_n hC dX0_init_51 rfl 1 rfl ?_
      refine s_bipush hC dX0_init_52 (by decide) ?_
      refine s_ite1m (φ := (30 : Int) ≤ (n : Int)) (by omega) ?_
      refine s_icmp_ge (K1 := none) (tgt := 76) hC dX0_init_54 (by decide) ⟨by omega, by omega⟩ (inR_c _ rfl) s_none ?_
      refine s_aload_n hC dX0_init_57 rfl 0 rfl ?_
      refine n_get hC hK (i := 0) (fs := [vI 6, vI 8, vI 0, .ref (b + 1), .ref (b + 6), .ref (b + 7)]) (bkE_0 n) rfl q_w_X0 4 (by decide) q_f_X0_30 rfl dX0_init_58 ?_
      refine s_iload_n hC dX0_init_61 rfl 1 rfl ?_
      refine n_new (es' := bkE G b σ1 n ++ [.inr (4, [vI 0, vI 0, vI 0, vI 0, vI 0, .null, .null])]) hC hK hF (i := 8 + 3 * n) bkE_len rfl q_w_X7 tyX7_ok q_l_X0_28 q_o_X7 q_i_X7 (fun j hj => by rcases (show j = 0 ∨ j = 1 ∨ j = 2 ∨ j = 3 ∨ j = 4 ∨ j = 5 ∨ j = 6 by omega) with rfl | rfl | rfl | rfl | rfl | rfl | rfl <;> rfl) rfl dX0_init_62 ⟨by show 97 - 3 * (d + 1) + 1 ≤ 97; omega, by show 3954 - 87 * (d + 1) + 7 ≤ 3954; omega⟩ ?_
      refine s_dup hC dX0_init_65 rfl ?_
      refine n_callZ (y := yX7_init) (i := 8 + 3 * n) (lay := layRw G (b + (8 + 3 * n))) (N := 3) (pre := bkE G b σ1 n) (z := iniR) hC hKA hF (fun _ h => h) (fun F' hF' => m_X7_init hF') rfl bkE_len (cn_of hC hKA 0 q_c_yX7_init q_i_X7 nwm_X0_38 rfl rfl dd_yX7_init ⟨Nat.le_of_ble_eq_true rfl, Nat.le_of_ble_eq_true rfl⟩) rfl q_i_yX7_init (Nat.le_of_ble_eq_true rfl) dX0_init_66 ⟨by show 97 - 3 * (d + 1) + 1 + 2 ≤ 97; omega, by show 3954 - 87 * (d + 1) + 7 + 80 ≤ 3954; omega⟩ rfl (fun _ => ?_)
      refine n_aast (i := 6) (r := 8 + 3 * n) (nA := 30) hC hK n hF (fun _ h => h) bkE_6 bkE_r rfl (by omega) (by decide) (bkE_step hn) dX0_init_69 ?_
      refine s_iinc (L' := [(1, vI ((n : Int) + 1)), (0, .ref (b + 0))]) hC dX0_init_70 1 rfl (by decide) rfl ?_
      refine s_goto (tgt := 51) hC dX0_init_73 (by decide) ?_
      refine s_sub (L' := [(0, .ref (b + 0)), (1, vI ((n + 1 : Nat) : Int))]) [1, 0] rfl ?_
      refine s_widen (k' := 97 - 3 * d) (n' := 3954 - 87 * d) (by omega) (by omega) ?_
      exact ih (n + 1) (by omega)
  exact key 30 0 rfl
theorem dd_yX2_init : yX2_init.cls ≠ "java/lang/invoke/MethodHandle" ∧ yX2_init.cls ≠ "java/lang/invoke/VarHandle" ∧ (parseMethodDescriptor yX2_init.desc).map (fun d => d.parameters.length) = some 0 := by decide +kernel
set_option maxHeartbeats 4000000 in
set_option maxRecDepth 100000 in
theorem m_X2_init {l : Launch} {G : Gt} {b : Nat} {F : Heap → Prop} (hF : FrS b F) : MetS l yX2_init cX2_init 1 none { frames := 1, cells := 4, slots := 161, locals := 20 } G [.ref (b + 0)] (Cl G b [.inr (2, [.null, vI 0, vI 0, .null, .null, .null, vI 0, vI 0, vI 0])] F) (poU (JC G (layPad G b) 5 b F)) (fun q => b ≤ q) 4 161 g_X2_init := by
  refine met_of (by decide) (Nat.le_of_ble_eq_true rfl) ?_
  intro p e s m below meth c hC hKA hr hnm
  have hK := hKA.1
  unfold g_X2_init
  refine s_sub (L' := [(0, .ref (b + 0))]) [0] rfl ?_
  refine s_aload_n hC dX2_init_0 rfl 0 rfl ?_
  refine n_obj hC q_m_X2_3 dX2_init_1 (Nat.le_of_ble_eq_true rfl) (Nat.le_of_ble_eq_true rfl) ?_
  refine s_aload_n hC dX2_init_4 rfl 0 rfl ?_
  refine s_bipush hC dX2_init_5 (by decide) ?_
  refine n_newa (es' := [.inr (2, [.null, vI 0, vI 0, .null, .null, .null, vI 0, vI 0, vI 0]), ia G 80 (fun _ => 0)]) hC hK hF (i := 1) rfl (N' := 80) rfl (by decide) rfl dX2_init_7 ⟨Nat.le_of_ble_eq_true rfl, Nat.le_of_ble_eq_true rfl⟩ ?_
  refine n_put (es' := [.inr (2, [.ref (b + 1), vI 0, vI 0, .null, .null, .null, vI 0, vI 0, vI 0]), ia G 80 (fun _ => 0)]) (ty := .array (.int)) hC hK hF (fun _ h => h) (i := 0) rfl rfl q_w_X2 tyX2_ok nmX2 0 (by decide) q_f_X2_9 (by first | exact Or.inl rfl | exact Or.inr ⟨rfl, hnm, rfl⟩) (by decide +kernel) rfl rfl (Nat.le_of_ble_eq_true rfl) rfl dX2_init_9 ?_
  refine s_aload_n hC dX2_init_12 rfl 0 rfl ?_
  refine s_iconst hC dX2_init_13 ?_
  refine n_put (es' := [.inr (2, [.ref (b + 1), vI 0, vI 0, .null, .null, .null, vI 0, vI 0, vI 0]), ia G 80 (fun _ => 0)]) (ty := .int) hC hK hF (fun _ h => h) (i := 0) rfl rfl q_w_X2 tyX2_ok nmX2 1 (by decide) q_f_X2_15 (by first | exact Or.inl rfl | exact Or.inr ⟨rfl, hnm, rfl⟩) (by decide +kernel) rfl rfl (Nat.le_of_ble_eq_true rfl) rfl dX2_init_14 ?_
  refine s_aload_n hC dX2_init_17 rfl 0 rfl ?_
  refine s_iconst hC dX2_init_18 ?_
  refine n_put (es' := [.inr (2, [.ref (b + 1), vI 0, vI 0, .null, .null, .null, vI 0, vI 0, vI 0]), ia G 80 (fun _ => 0)]) (ty := .int) hC hK hF (fun _ h => h) (i := 0) rfl rfl q_w_X2 tyX2_ok nmX2 2 (by decide) q_f_X2_19 (by first | exact Or.inl rfl | exact Or.inr ⟨rfl, hnm, rfl⟩) (by decide +kernel) rfl rfl (Nat.le_of_ble_eq_true rfl) rfl dX2_init_19 ?_
  refine s_aload_n hC dX2_init_22 rfl 0 rfl ?_
  refine s_bipush hC dX2_init_23 (by decide) ?_
  refine n_newa (es' := [.inr (2, [.ref (b + 1), vI 0, vI 0, .null, .null, .null, vI 0, vI 0, vI 0]), ia G 80 (fun _ => 0), ia G 27 (fun _ => 0)]) hC hK hF (i := 2) rfl (N' := 27) rfl (by decide) rfl dX2_init_25 ⟨Nat.le_of_ble_eq_true rfl, Nat.le_of_ble_eq_true rfl⟩ ?_
  refine n_put (es' := [.inr (2, [.ref (b + 1), vI 0, vI 0, .ref (b + 2), .null, .null, vI 0, vI 0, vI 0]), ia G 80 (fun _ => 0), ia G 27 (fun _ => 0)]) (ty := .array (.int)) hC hK hF (fun _ h => h) (i := 0) rfl rfl q_w_X2 tyX2_ok nmX2 3 (by decide) q_f_X2_22 (by first | exact Or.inl rfl | exact Or.inr ⟨rfl, hnm, rfl⟩) (by decide +kernel) rfl rfl (Nat.le_of_ble_eq_true rfl) rfl dX2_init_27 ?_
  refine s_aload_n hC dX2_init_30 rfl 0 rfl ?_
  refine s_bipush hC dX2_init_31 (by decide) ?_
  refine n_newa (es' := [.inr (2, [.ref (b + 1), vI 0, vI 0, .ref (b + 2), .null, .null, vI 0, vI 0, vI 0]), ia G 80 (fun _ => 0), ia G 27 (fun _ => 0), ia G 27 (fun _ => 0)]) hC hK hF (i := 3) rfl (N' := 27) rfl (by decide) rfl dX2_init_33 ⟨Nat.le_of_ble_eq_true rfl, Nat.le_of_ble_eq_true rfl⟩ ?_
  refine n_put (es' := [.inr (2, [.ref (b + 1), vI 0, vI 0, .ref (b + 2), .ref (b + 3), .null, vI 0, vI 0, vI 0]), ia G 80 (fun _ => 0), ia G 27 (fun _ => 0), ia G 27 (fun _ => 0)]) (ty := .array (.int)) hC hK hF (fun _ h => h) (i := 0) rfl rfl q_w_X2 tyX2_ok nmX2 4 (by decide) q_f_X2_25 (by first | exact Or.inl rfl | exact Or.inr ⟨rfl, hnm, rfl⟩) (by decide +kernel) rfl rfl (Nat.le_of_ble_eq_true rfl) rfl dX2_init_35 ?_
  refine s_aload_n hC dX2_init_38 rfl 0 rfl ?_
  refine s_bipush hC dX2_init_39 (by decide) ?_
  refine n_newa (es' := [.inr (2, [.ref (b + 1), vI 0, vI 0, .ref (b + 2), .ref (b + 3), .null, vI 0, vI 0, vI 0]), ia G 80 (fun _ => 0), ia G 27 (fun _ => 0), ia G 27 (fun _ => 0), ia G 27 (fun _ => 0)]) hC hK hF (i := 4) rfl (N' := 27) rfl (by decide) rfl dX2_init_41 ⟨Nat.le_of_ble_eq_true rfl, Nat.le_of_ble_eq_true rfl⟩ ?_
  refine n_put (es' := [.inr (2, [.ref (b + 1), vI 0, vI 0, .ref (b + 2), .ref (b + 3), .ref (b + 4), vI 0, vI 0, vI 0]), ia G 80 (fun _ => 0), ia G 27 (fun _ => 0), ia G 27 (fun _ => 0), ia G 27 (fun _ => 0)]) (ty := .array (.int)) hC hK hF (fun _ h => h) (i := 0) rfl rfl q_w_X2 tyX2_ok nmX2 5 (by decide) q_f_X2_28 (by first | exact Or.inl rfl | exact Or.inr ⟨rfl, hnm, rfl⟩) (by decide +kernel) rfl rfl (Nat.le_of_ble_eq_true rfl) rfl dX2_init_43 ?_
  refine s_aload_n hC dX2_init_46 rfl 0 rfl ?_
  refine s_iconst hC dX2_init_47 ?_
  refine n_put (es' := [.inr (2, [.ref (b + 1), vI 0, vI 0, .ref (b + 2), .ref (b + 3), .ref (b + 4), vI 0, vI 0, vI 0]), ia G 80 (fun _ => 0), ia G 27 (fun _ => 0), ia G 27 (fun _ => 0), ia G 27 (fun _ => 0)]) (ty := .boolean) hC hK hF (fun _ h => h) (i := 0) rfl rfl q_w_X2 tyX2_ok nmX2 6 (by decide) q_f_X2_31 (by first | exact Or.inl rfl | exact Or.inr ⟨rfl, hnm, rfl⟩) (by decide +kernel) rfl rfl (Nat.le_of_ble_eq_true rfl) rfl dX2_init_48 ?_
  refine s_aload_n hC dX2_init_51 rfl 0 rfl ?_
  refine s_iconst hC dX2_init_52 ?_
  refine n_put (es' := [.inr (2, [.ref (b + 1), vI 0, vI 0, .ref (b + 2), .ref (b + 3), .ref (b + 4), vI 0, vI 0, vI 0]), ia G 80 (fun _ => 0), ia G 27 (fun _ => 0), ia G 27 (fun _ => 0), ia G 27 (fun _ => 0)]) (ty := .int) hC hK hF (fun _ h => h) (i := 0) rfl rfl q_w_X2 tyX2_ok nmX2 7 (by decide) q_f_X2_35 (by first | exact Or.inl rfl | exact Or.inr ⟨rfl, hnm, rfl⟩) (by decide +kernel) rfl rfl (Nat.le_of_ble_eq_true rfl) rfl dX2_init_53 ?_
  refine s_aload_n hC dX2_init_56 rfl 0 rfl ?_
  refine s_iconst hC dX2_init_57 ?_
  refine n_put (es' := [.inr (2, [.ref (b + 1), vI 0, vI 0, .ref (b + 2), .ref (b + 3), .ref (b + 4), vI 0, vI 0, vI 0]), ia G 80 (fun _ => 0), ia G 27 (fun _ => 0), ia G 27 (fun _ => 0), ia G 27 (fun _ => 0)]) (ty := .int) hC hK hF (fun _ h => h) (i := 0) rfl rfl q_w_X2 tyX2_ok nmX2 8 (by decide) q_f_X2_38 (by first | exact Or.inl rfl | exact Or.inr ⟨rfl, hnm, rfl⟩) (by decide +kernel) rfl rfl (Nat.le_of_ble_eq_true rfl) rfl dX2_init_58 ?_
  refine s_I (I' := JC G (layPad G b) 5 b F (fun _ _ => 0)) (fun H h => h) ?_
  exact s_vret hC hr dX2_init_61 (fun H hH => ⟨rfl, rg_0, hH⟩)
theorem dd_yX1_init : yX1_init.cls ≠ "java/lang/invoke/MethodHandle" ∧ yX1_init.cls ≠ "java/lang/invoke/VarHandle" ∧ (parseMethodDescriptor yX1_init.desc).map (fun d => d.parameters.length) = some 0 := by decide +kernel
set_option maxHeartbeats 4000000 in
set_option maxRecDepth 100000 in
theorem m_X1_init {l : Launch} {G : Gt} {b : Nat} {F : Heap → Prop} (hF : FrS b F) : MetS l yX1_init cX1_init 1 none { frames := 1, cells := 1, slots := 6, locals := 20 } G [.ref (b + 0)] (Cl G b [.inr (1, [.null, vI 0, vI 0])] F) (poU (JC G (layHi G b) 2 b F)) (fun q => b ≤ q) 1 6 g_X1_init := by
  refine met_of (by decide) (Nat.le_of_ble_eq_true rfl) ?_
  intro p e s m below meth c hC hKA hr hnm
  have hK := hKA.1
  unfold g_X1_init
  refine s_sub (L' := [(0, .ref (b + 0))]) [0] rfl ?_
  refine s_aload_n hC dX1_init_0 rfl 0 rfl ?_
  refine n_obj hC q_m_X1_3 dX1_init_1 (Nat.le_of_ble_eq_true rfl) (Nat.le_of_ble_eq_true rfl) ?_
  refine s_aload_n hC dX1_init_4 rfl 0 rfl ?_
  refine s_bipush hC dX1_init_5 (by decide) ?_
  refine n_newq (es' := [.inr (1, [.null, vI 0, vI 0]), .inl (G.2.2.2, (6, .inr (.inr (.inr (.inr (fun _ => none))))))]) hC hKA hF (i := 1) rfl (N' := 6) rfl (by decide) q_l_X1_9 rfl dX1_init_7 ⟨Nat.le_of_ble_eq_true rfl, Nat.le_of_ble_eq_true rfl⟩ ?_
  refine n_put (es' := [.inr (1, [.ref (b + 1), vI 0, vI 0]), .inl (G.2.2.2, (6, .inr (.inr (.inr (.inr (fun _ => none))))))]) (ty := .array (.object "OverflowRows$Book")) hC hK hF (fun _ h => h) (i := 0) rfl rfl q_w_X1 tyX1_ok nmX1 0 (by decide) q_f_X1_11 (by first | exact Or.inl rfl | exact Or.inr ⟨rfl, hnm, rfl⟩) (by decide +kernel) rfl rfl (Nat.le_of_ble_eq_true rfl) rfl dX1_init_10 ?_
  refine s_aload_n hC dX1_init_13 rfl 0 rfl ?_
  refine s_iconst hC dX1_init_14 ?_
  refine n_put (es' := [.inr (1, [.ref (b + 1), vI 0, vI 0]), .inl (G.2.2.2, (6, .inr (.inr (.inr (.inr (fun _ => none))))))]) (ty := .int) hC hK hF (fun _ h => h) (i := 0) rfl rfl q_w_X1 tyX1_ok nmX1 1 (by decide) q_f_X1_17 (by first | exact Or.inl rfl | exact Or.inr ⟨rfl, hnm, rfl⟩) (by decide +kernel) rfl rfl (Nat.le_of_ble_eq_true rfl) rfl dX1_init_15 ?_
  refine s_aload_n hC dX1_init_18 rfl 0 rfl ?_
  refine s_iconst hC dX1_init_19 ?_
  refine n_put (es' := [.inr (1, [.ref (b + 1), vI 0, vI 0]), .inl (G.2.2.2, (6, .inr (.inr (.inr (.inr (fun _ => none))))))]) (ty := .int) hC hK hF (fun _ h => h) (i := 0) rfl rfl q_w_X1 tyX1_ok nmX1 2 (by decide) q_f_X1_21 (by first | exact Or.inl rfl | exact Or.inr ⟨rfl, hnm, rfl⟩) (by decide +kernel) rfl rfl (Nat.le_of_ble_eq_true rfl) rfl dX1_init_20 ?_
  refine s_I (I' := JC G (layHi G b) 2 b F iniH) (fun H h => h) ?_
  exact s_vret hC hr dX1_init_23 (fun H hH => ⟨rfl, rg_iniH, hH⟩)
