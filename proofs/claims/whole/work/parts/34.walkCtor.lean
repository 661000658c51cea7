theorem dd_yX3_init : yX3_init.cls ≠ "java/lang/invoke/MethodHandle" ∧ yX3_init.cls ≠ "java/lang/invoke/VarHandle" ∧ (parseMethodDescriptor yX3_init.desc).map (fun d => d.parameters.length) = some 0 := by decide +kernel
set_option maxHeartbeats 4000000 in
set_option maxRecDepth 100000 in
theorem m_X3_init {l : Launch} {G : Gt} {b : Nat} {F : Heap → Prop} (hF : FrS b F) : MetS l yX3_init cX3_init 1 none { frames := 1, cells := 4, slots := 1210, locals := 23 } G [.ref (b + 0)] (Cl G b [.inr (3, [.null, .null, .null, .null])] F) (poU (JC G (layPg G b) 5 b F)) (fun q => b ≤ q) 4 1210 f_X3_init := by
  refine met_of (by decide) (Nat.le_of_ble_eq_true rfl) ?_
  intro p e s m below meth c hC hKA hr hnm
  have hK := hKA.1
  unfold f_X3_init
  refine s_sub (L' := [(0, .ref (b + 0))]) [0] rfl ?_
  refine s_aload_n hC dX3_init_0 rfl 0 rfl ?_
  refine n_obj hC q_m_X3_3 dX3_init_1 (Nat.le_of_ble_eq_true rfl) (Nat.le_of_ble_eq_true rfl) ?_
  refine s_aload_n hC dX3_init_4 rfl 0 rfl ?_
  refine s_sipush hC dX3_init_5 (by decide) ?_
  refine n_newa (es' := [.inr (3, [.null, .null, .null, .null]), ia G 400 (fun _ => 0)]) hC hK hF (i := 1) rfl (N' := 400) rfl (by decide) rfl dX3_init_8 ⟨Nat.le_of_ble_eq_true rfl, Nat.le_of_ble_eq_true rfl⟩ ?_
  refine n_put (es' := [.inr (3, [.ref (b + 1), .null, .null, .null]), ia G 400 (fun _ => 0)]) (ty := .array (.int)) hC hK hF (fun _ h => h) (i := 0) rfl rfl q_w_X3 tyX3_ok nmX3 0 (by decide) q_f_X3_9 (by first | exact Or.inl rfl | exact Or.inr ⟨rfl, hnm, rfl⟩) (by decide +kernel) rfl rfl (Nat.le_of_ble_eq_true rfl) rfl dX3_init_10 ?_
  refine s_aload_n hC dX3_init_13 rfl 0 rfl ?_
  refine s_sipush hC dX3_init_14 (by decide) ?_
  refine n_newa (es' := [.inr (3, [.ref (b + 1), .null, .null, .null]), ia G 400 (fun _ => 0), ia G 400 (fun _ => 0)]) hC hK hF (i := 2) rfl (N' := 400) rfl (by decide) rfl dX3_init_17 ⟨Nat.le_of_ble_eq_true rfl, Nat.le_of_ble_eq_true rfl⟩ ?_
  refine n_put (es' := [.inr (3, [.ref (b + 1), .ref (b + 2), .null, .null]), ia G 400 (fun _ => 0), ia G 400 (fun _ => 0)]) (ty := .array (.int)) hC hK hF (fun _ h => h) (i := 0) rfl rfl q_w_X3 tyX3_ok nmX3 1 (by decide) q_f_X3_15 (by first | exact Or.inl rfl | exact Or.inr ⟨rfl, hnm, rfl⟩) (by decide +kernel) rfl rfl (Nat.le_of_ble_eq_true rfl) rfl dX3_init_19 ?_
  refine s_aload_n hC dX3_init_22 rfl 0 rfl ?_
  refine s_sipush hC dX3_init_23 (by decide) ?_
  refine n_newa (es' := [.inr (3, [.ref (b + 1), .ref (b + 2), .null, .null]), ia G 400 (fun _ => 0), ia G 400 (fun _ => 0), ia G 400 (fun _ => 0)]) hC hK hF (i := 3) rfl (N' := 400) rfl (by decide) rfl dX3_init_26 ⟨Nat.le_of_ble_eq_true rfl, Nat.le_of_ble_eq_true rfl⟩ ?_
  refine n_put (es' := [.inr (3, [.ref (b + 1), .ref (b + 2), .ref (b + 3), .null]), ia G 400 (fun _ => 0), ia G 400 (fun _ => 0), ia G 400 (fun _ => 0)]) (ty := .array (.int)) hC hK hF (fun _ h => h) (i := 0) rfl rfl q_w_X3 tyX3_ok nmX3 2 (by decide) q_f_X3_18 (by first | exact Or.inl rfl | exact Or.inr ⟨rfl, hnm, rfl⟩) (by decide +kernel) rfl rfl (Nat.le_of_ble_eq_true rfl) rfl dX3_init_28 ?_
  refine s_aload_n hC dX3_init_31 rfl 0 rfl ?_
  refine s_bipush hC dX3_init_32 (by decide) ?_
  refine n_newa (es' := [.inr (3, [.ref (b + 1), .ref (b + 2), .ref (b + 3), .null]), ia G 400 (fun _ => 0), ia G 400 (fun _ => 0), ia G 400 (fun _ => 0), ia G 10 (fun _ => 0)]) hC hK hF (i := 4) rfl (N' := 10) rfl (by decide) rfl dX3_init_34 ⟨Nat.le_of_ble_eq_true rfl, Nat.le_of_ble_eq_true rfl⟩ ?_
  refine n_put (es' := [.inr (3, [.ref (b + 1), .ref (b + 2), .ref (b + 3), .ref (b + 4)]), ia G 400 (fun _ => 0), ia G 400 (fun _ => 0), ia G 400 (fun _ => 0), ia G 10 (fun _ => 0)]) (ty := .array (.int)) hC hK hF (fun _ h => h) (i := 0) rfl rfl q_w_X3 tyX3_ok nmX3 3 (by decide) q_f_X3_21 (by first | exact Or.inl rfl | exact Or.inr ⟨rfl, hnm, rfl⟩) (by decide +kernel) rfl rfl (Nat.le_of_ble_eq_true rfl) rfl dX3_init_36 ?_
  refine s_aload_n hC dX3_init_39 rfl 0 rfl ?_
  refine s_I (I' := JC G (layPg G b) 5 b F (fun _ _ => 0)) (fun H h => h) ?_
  refine s_get hC hK ((JC.wd hF).1 _) (by decide) o_Pg rfl q_w_X3 3 (by decide) q_f_X3_21 rfl dX3_init_40 ?_
  refine s_bipush hC dX3_init_43 (by decide) ?_
  refine s_callS_U (As := [.ref (b + 4), vI 40]) (rest := []) hC hKA 2 (m_J7_fill_53178 (JC.wd hF) rg_0 (by decide) a_Pg_4 (inR_c _ rfl)) (fun _ h => h.1) rfl (cb_of hC 2 q_c_yJ7_fill_53178 q_i_J7 q_m_X3_24 rfl rfl dd_yJ7_fill_53178 ⟨Nat.le_of_ble_eq_true rfl, Nat.le_of_ble_eq_true rfl⟩) q_s_yJ7_fill_53178 rfl (Nat.le_of_ble_eq_true rfl) dX3_init_45 ⟨Nat.le_of_ble_eq_true rfl, Nat.le_of_ble_eq_true rfl⟩ (fun σ1 hσ1 => ?_)
  exact s_vret hC hr dX3_init_48 (fun H hH => ⟨rfl, hσ1, hH⟩)
theorem dd_yX0_init : yX0_init.cls ≠ "java/lang/invoke/MethodHandle" ∧ yX0_init.cls ≠ "java/lang/invoke/VarHandle" ∧ (parseMethodDescriptor yX0_init.desc).map (fun d => d.parameters.length) = some 0 := by decide +kernel
set_option maxHeartbeats 4000000 in
set_option maxRecDepth 100000 in
theorem m_X0_init {l : Launch} {G : Gt} {b : Nat} {F : Heap → Prop} (hF : FrS b F) : MetS l yX0_init cX0_init 1 none { frames := 2, cells := 73, slots := 3924, locals := 43 } G [.ref (b + 0)] (Cl G b [.inr (0, [vI 0, vI 0, vI 0, .null, .null, .null, .null, .null, .null, .null, .null, .null])] F) (poU (JC G (layBook G b) 74 b F)) (fun q => b ≤ q) 73 3924 f_X0_init := by
  refine met_of (by decide) (Nat.le_of_ble_eq_true rfl) ?_
  intro p e s m below meth c hC hKA hr hnm
  have hK := hKA.1
  unfold f_X0_init
  refine s_sub (L' := [(0, .ref (b + 0))]) [0] rfl ?_
  refine s_aload_n hC dX0_init_0 rfl 0 rfl ?_
  refine n_obj hC q_m_X0_3 dX0_init_1 (Nat.le_of_ble_eq_true rfl) (Nat.le_of_ble_eq_true rfl) ?_
  refine s_aload_n hC dX0_init_4 rfl 0 rfl ?_
  refine s_bipush hC dX0_init_5 (by decide) ?_
  refine n_put (es' := [.inr (0, [vI 6, vI 0, vI 0, .null, .null, .null, .null, .null, .null, .null, .null, .null])]) (ty := .int) hC hK hF (fun _ h => h) (i := 0) rfl rfl q_w_X0 tyX0_ok nmX0 0 (by decide) q_f_X0_9 (by first | exact Or.inl rfl | exact Or.inr ⟨rfl, hnm, rfl⟩) (by decide +kernel) rfl rfl (Nat.le_of_ble_eq_true rfl) rfl dX0_init_7 ?_
  refine s_aload_n hC dX0_init_10 rfl 0 rfl ?_
  refine s_bipush hC dX0_init_11 (by decide) ?_
  refine n_put (es' := [.inr (0, [vI 6, vI 8, vI 0, .null, .null, .null, .null, .null, .null, .null, .null, .null])]) (ty := .int) hC hK hF (fun _ h => h) (i := 0) rfl rfl q_w_X0 tyX0_ok nmX0 1 (by decide) q_f_X0_15 (by first | exact Or.inl rfl | exact Or.inr ⟨rfl, hnm, rfl⟩) (by decide +kernel) rfl rfl (Nat.le_of_ble_eq_true rfl) rfl dX0_init_13 ?_
  refine s_aload_n hC dX0_init_16 rfl 0 rfl ?_
  refine s_iconst hC dX0_init_17 ?_
  refine n_put (es' := [.inr (0, [vI 6, vI 8, vI 0, .null, .null, .null, .null, .null, .null, .null, .null, .null])]) (ty := .int) hC hK hF (fun _ h => h) (i := 0) rfl rfl q_w_X0 tyX0_ok nmX0 2 (by decide) q_f_X0_18 (by first | exact Or.inl rfl | exact Or.inr ⟨rfl, hnm, rfl⟩) (by decide +kernel) rfl rfl (Nat.le_of_ble_eq_true rfl) rfl dX0_init_18 ?_
  refine s_aload_n hC dX0_init_21 rfl 0 rfl ?_
  refine n_new (es' := [.inr (0, [vI 6, vI 8, vI 0, .null, .null, .null, .null, .null, .null, .null, .null, .null]), .inr (3, [.null, .null, .null, .null])]) hC hK hF (i := 1) rfl rfl q_w_X3 tyX3_ok q_l_X0_21 q_o_X3 q_i_X3 (fun j hj => by rcases (show j = 0 ∨ j = 1 ∨ j = 2 ∨ j = 3 by omega) with rfl | rfl | rfl | rfl <;> rfl) rfl dX0_init_22 ⟨Nat.le_of_ble_eq_true rfl, Nat.le_of_ble_eq_true rfl⟩ ?_
  refine s_dup hC dX0_init_25 rfl ?_
  refine n_callC (y := yX3_init) (i := 1) (lay := layPg G (b + 1)) (N := 5) (pre := [.inr (0, [vI 6, vI 8, vI 0, .null, .null, .null, .null, .null, .null, .null, .null, .null])]) hC hKA hF (fun _ h => h) (fun F' hF' => m_X3_init hF') rfl rfl (cb_of hC 0 q_c_yX3_init q_i_X3 q_m_X0_23 rfl rfl dd_yX3_init ⟨Nat.le_of_ble_eq_true rfl, Nat.le_of_ble_eq_true rfl⟩) rfl q_i_yX3_init (Nat.le_of_ble_eq_true rfl) dX0_init_26 ⟨Nat.le_of_ble_eq_true rfl, Nat.le_of_ble_eq_true rfl⟩ (fun σ1 hσ1 => ?_)
  refine s_I (I' := Cl G b ([.inr (0, [vI 6, vI 8, vI 0, .null, .null, .null, .null, .null, .null, .null, .null, .null]), layPg G (b + 1) 0 (σ1 0), layPg G (b + 1) 1 (σ1 1), layPg G (b + 1) 2 (σ1 2), layPg G (b + 1) 3 (σ1 3), layPg G (b + 1) 4 (σ1 4)]) F) (fun H h => h) ?_
  refine n_put (es' := [.inr (0, [vI 6, vI 8, vI 0, .ref (b + 1), .null, .null, .null, .null, .null, .null, .null, .null]), layPg G (b + 1) 0 (σ1 0), layPg G (b + 1) 1 (σ1 1), layPg G (b + 1) 2 (σ1 2), layPg G (b + 1) 3 (σ1 3), layPg G (b + 1) 4 (σ1 4)]) (ty := .object "OverflowRows$Pages") hC hK hF (fun _ h => h) (i := 0) rfl rfl q_w_X0 tyX0_ok nmX0 3 (by decide) q_f_X0_24 (by first | exact Or.inl rfl | exact Or.inr ⟨rfl, hnm, rfl⟩) (by decide +kernel) rfl rfl (Nat.le_of_ble_eq_true rfl) rfl dX0_init_29 ?_
  refine s_aload_n hC dX0_init_32 rfl 0 rfl ?_
  refine s_bipush hC dX0_init_33 (by decide) ?_
  refine n_newa (es' := [.inr (0, [vI 6, vI 8, vI 0, .ref (b + 1), .null, .null, .null, .null, .null, .null, .null, .null]), layPg G (b + 1) 0 (σ1 0), layPg G (b + 1) 1 (σ1 1), layPg G (b + 1) 2 (σ1 2), layPg G (b + 1) 3 (σ1 3), layPg G (b + 1) 4 (σ1 4), ia G 100 (fun _ => 0)]) hC hK hF (i := 6) rfl (N' := 100) rfl (by decide) rfl dX0_init_35 ⟨Nat.le_of_ble_eq_true rfl, Nat.le_of_ble_eq_true rfl⟩ ?_
  refine n_put (es' := [.inr (0, [vI 6, vI 8, vI 0, .ref (b + 1), .ref (b + 6), .null, .null, .null, .null, .null, .null, .null]), layPg G (b + 1) 0 (σ1 0), layPg G (b + 1) 1 (σ1 1), layPg G (b + 1) 2 (σ1 2), layPg G (b + 1) 3 (σ1 3), layPg G (b + 1) 4 (σ1 4), ia G 100 (fun _ => 0)]) (ty := .array (.int)) hC hK hF (fun _ h => h) (i := 0) rfl rfl q_w_X0 tyX0_ok nmX0 4 (by decide) q_f_X0_28 (by first | exact Or.inl rfl | exact Or.inr ⟨rfl, hnm, rfl⟩) (by decide +kernel) rfl rfl (Nat.le_of_ble_eq_true rfl) rfl dX0_init_37 ?_
  refine s_aload_n hC dX0_init_40 rfl 0 rfl ?_
  refine s_bipush hC dX0_init_41 (by decide) ?_
  refine n_newa (es' := [.inr (0, [vI 6, vI 8, vI 0, .ref (b + 1), .ref (b + 6), .null, .null, .null, .null, .null, .null, .null]), layPg G (b + 1) 0 (σ1 0), layPg G (b + 1) 1 (σ1 1), layPg G (b + 1) 2 (σ1 2), layPg G (b + 1) 3 (σ1 3), layPg G (b + 1) 4 (σ1 4), ia G 100 (fun _ => 0), ia G 30 (fun _ => 0)]) hC hK hF (i := 7) rfl (N' := 30) rfl (by decide) rfl dX0_init_43 ⟨Nat.le_of_ble_eq_true rfl, Nat.le_of_ble_eq_true rfl⟩ ?_
  refine n_put (es' := [.inr (0, [vI 6, vI 8, vI 0, .ref (b + 1), .ref (b + 6), .ref (b + 7), .null, .null, .null, .null, .null, .null]), layPg G (b + 1) 0 (σ1 0), layPg G (b + 1) 1 (σ1 1), layPg G (b + 1) 2 (σ1 2), layPg G (b + 1) 3 (σ1 3), layPg G (b + 1) 4 (σ1 4), ia G 100 (fun _ => 0), ia G 30 (fun _ => 0)]) (ty := .array (.int)) hC hK hF (fun _ h => h) (i := 0) rfl rfl q_w_X0 tyX0_ok nmX0 5 (by decide) q_f_X0_32 (by first | exact Or.inl rfl | exact Or.inr ⟨rfl, hnm, rfl⟩) (by decide +kernel) rfl rfl (Nat.le_of_ble_eq_true rfl) rfl dX0_init_45 ?_
  refine s_aload_n hC dX0_init_48 rfl 0 rfl ?_
  refine s_bipush hC dX0_init_49 (by decide) ?_
  refine n_newa (es' := [.inr (0, [vI 6, vI 8, vI 0, .ref (b + 1), .ref (b + 6), .ref (b + 7), .null, .null, .null, .null, .null, .null]), layPg G (b + 1) 0 (σ1 0), layPg G (b + 1) 1 (σ1 1), layPg G (b + 1) 2 (σ1 2), layPg G (b + 1) 3 (σ1 3), layPg G (b + 1) 4 (σ1 4), ia G 100 (fun _ => 0), ia G 30 (fun _ => 0), ia G 30 (fun _ => 0)]) hC hK hF (i := 8) rfl (N' := 30) rfl (by decide) rfl dX0_init_51 ⟨Nat.le_of_ble_eq_true rfl, Nat.le_of_ble_eq_true rfl⟩ ?_
  refine n_put (es' := [.inr (0, [vI 6, vI 8, vI 0, .ref (b + 1), .ref (b + 6), .ref (b + 7), .ref (b + 8), .null, .null, .null, .null, .null]), layPg G (b + 1) 0 (σ1 0), layPg G (b + 1) 1 (σ1 1), layPg G (b + 1) 2 (σ1 2), layPg G (b + 1) 3 (σ1 3), layPg G (b + 1) 4 (σ1 4), ia G 100 (fun _ => 0), ia G 30 (fun _ => 0), ia G 30 (fun _ => 0)]) (ty := .array (.int)) hC hK hF (fun _ h => h) (i := 0) rfl rfl q_w_X0 tyX0_ok nmX0 6 (by decide) q_f_X0_35 (by first | exact Or.inl rfl | exact Or.inr ⟨rfl, hnm, rfl⟩) (by decide +kernel) rfl rfl (Nat.le_of_ble_eq_true rfl) rfl dX0_init_53 ?_
  refine s_aload_n hC dX0_init_56 rfl 0 rfl ?_
  refine s_bipush hC dX0_init_57 (by decide) ?_
  refine n_newa (es' := [.inr (0, [vI 6, vI 8, vI 0, .ref (b + 1), .ref (b + 6), .ref (b + 7), .ref (b + 8), .null, .null, .null, .null, .null]), layPg G (b + 1) 0 (σ1 0), layPg G (b + 1) 1 (σ1 1), layPg G (b + 1) 2 (σ1 2), layPg G (b + 1) 3 (σ1 3), layPg G (b + 1) 4 (σ1 4), ia G 100 (fun _ => 0), ia G 30 (fun _ => 0), ia G 30 (fun _ => 0), ia G 30 (fun _ => 0)]) hC hK hF (i := 9) rfl (N' := 30) rfl (by decide) rfl dX0_init_59 ⟨Nat.le_of_ble_eq_true rfl, Nat.le_of_ble_eq_true rfl⟩ ?_
  refine n_put (es' := [.inr (0, [vI 6, vI 8, vI 0, .ref (b + 1), .ref (b + 6), .ref (b + 7), .ref (b + 8), .ref (b + 9), .null, .null, .null, .null]), layPg G (b + 1) 0 (σ1 0), layPg G (b + 1) 1 (σ1 1), layPg G (b + 1) 2 (σ1 2), layPg G (b + 1) 3 (σ1 3), layPg G (b + 1) 4 (σ1 4), ia G 100 (fun _ => 0), ia G 30 (fun _ => 0), ia G 30 (fun _ => 0), ia G 30 (fun _ => 0)]) (ty := .array (.int)) hC hK hF (fun _ h => h) (i := 0) rfl rfl q_w_X0 tyX0_ok nmX0 7 (by decide) q_f_X0_38 (by first | exact Or.inl rfl | exact Or.inr ⟨rfl, hnm, rfl⟩) (by decide +kernel) rfl rfl (Nat.le_of_ble_eq_true rfl) rfl dX0_init_61 ?_
  refine s_aload_n hC dX0_init_64 rfl 0 rfl ?_
  refine s_bipush hC dX0_init_65 (by decide) ?_
  refine n_newa (es' := [.inr (0, [vI 6, vI 8, vI 0, .ref (b + 1), .ref (b + 6), .ref (b + 7), .ref (b + 8), .ref (b + 9), .null, .null, .null, .null]), layPg G (b + 1) 0 (σ1 0), layPg G (b + 1) 1 (σ1 1), layPg G (b + 1) 2 (σ1 2), layPg G (b + 1) 3 (σ1 3), layPg G (b + 1) 4 (σ1 4), ia G 100 (fun _ => 0), ia G 30 (fun _ => 0), ia G 30 (fun _ => 0), ia G 30 (fun _ => 0), ia G 30 (fun _ => 0)]) hC hK hF (i := 10) rfl (N' := 30) rfl (by decide) rfl dX0_init_67 ⟨Nat.le_of_ble_eq_true rfl, Nat.le_of_ble_eq_true rfl⟩ ?_
  refine n_put (es' := [.inr (0, [vI 6, vI 8, vI 0, .ref (b + 1), .ref (b + 6), .ref (b + 7), .ref (b + 8), .ref (b + 9), .ref (b + 10), .null, .null, .null]), layPg G (b + 1) 0 (σ1 0), layPg G (b + 1) 1 (σ1 1), layPg G (b + 1) 2 (σ1 2), layPg G (b + 1) 3 (σ1 3), layPg G (b + 1) 4 (σ1 4), ia G 100 (fun _ => 0), ia G 30 (fun _ => 0), ia G 30 (fun _ => 0), ia G 30 (fun _ => 0), ia G 30 (fun _ => 0)]) (ty := .array (.int)) hC hK hF (fun _ h => h) (i := 0) rfl rfl q_w_X0 tyX0_ok nmX0 8 (by decide) q_f_X0_41 (by first | exact Or.inl rfl | exact Or.inr ⟨rfl, hnm, rfl⟩) (by decide +kernel) rfl rfl (Nat.le_of_ble_eq_true rfl) rfl dX0_init_69 ?_
  refine s_aload_n hC dX0_init_72 rfl 0 rfl ?_
  refine s_bipush hC dX0_init_73 (by decide) ?_
  refine n_newa (es' := [.inr (0, [vI 6, vI 8, vI 0, .ref (b + 1), .ref (b + 6), .ref (b + 7), .ref (b + 8), .ref (b + 9), .ref (b + 10), .null, .null, .null]), layPg G (b + 1) 0 (σ1 0), layPg G (b + 1) 1 (σ1 1), layPg G (b + 1) 2 (σ1 2), layPg G (b + 1) 3 (σ1 3), layPg G (b + 1) 4 (σ1 4), ia G 100 (fun _ => 0), ia G 30 (fun _ => 0), ia G 30 (fun _ => 0), ia G 30 (fun _ => 0), ia G 30 (fun _ => 0), ia G 30 (fun _ => 0)]) hC hK hF (i := 11) rfl (N' := 30) rfl (by decide) rfl dX0_init_75 ⟨Nat.le_of_ble_eq_true rfl, Nat.le_of_ble_eq_true rfl⟩ ?_
  refine n_put (es' := [.inr (0, [vI 6, vI 8, vI 0, .ref (b + 1), .ref (b + 6), .ref (b + 7), .ref (b + 8), .ref (b + 9), .ref (b + 10), .ref (b + 11), .null, .null]), layPg G (b + 1) 0 (σ1 0), layPg G (b + 1) 1 (σ1 1), layPg G (b + 1) 2 (σ1 2), layPg G (b + 1) 3 (σ1 3), layPg G (b + 1) 4 (σ1 4), ia G 100 (fun _ => 0), ia G 30 (fun _ => 0), ia G 30 (fun _ => 0), ia G 30 (fun _ => 0), ia G 30 (fun _ => 0), ia G 30 (fun _ => 0)]) (ty := .array (.int)) hC hK hF (fun _ h => h) (i := 0) rfl rfl q_w_X0 tyX0_ok nmX0 9 (by decide) q_f_X0_44 (by first | exact Or.inl rfl | exact Or.inr ⟨rfl, hnm, rfl⟩) (by decide +kernel) rfl rfl (Nat.le_of_ble_eq_true rfl) rfl dX0_init_77 ?_
  refine s_aload_n hC dX0_init_80 rfl 0 rfl ?_
  refine s_bipush hC dX0_init_81 (by decide) ?_
  refine s_bipush hC dX0_init_83 (by decide) ?_
  refine n_mna (es' := [.inr (0, [vI 6, vI 8, vI 0, .ref (b + 1), .ref (b + 6), .ref (b + 7), .ref (b + 8), .ref (b + 9), .ref (b + 10), .ref (b + 11), .null, .null]), layPg G (b + 1) 0 (σ1 0), layPg G (b + 1) 1 (σ1 1), layPg G (b + 1) 2 (σ1 2), layPg G (b + 1) 3 (σ1 3), layPg G (b + 1) 4 (σ1 4), ia G 100 (fun _ => 0), ia G 30 (fun _ => 0), ia G 30 (fun _ => 0), ia G 30 (fun _ => 0), ia G 30 (fun _ => 0), ia G 30 (fun _ => 0)] ++ (iq G 30 (b + (12 + 1)) :: List.replicate 30 (ia G 40 (fun _ => 0)))) hC hKA hF (i := 12) rfl (N' := 30) (K' := 40) rfl rfl (by decide) (by decide) q_l_X0_47 rfl dX0_init_85 ⟨Nat.le_of_ble_eq_true rfl, Nat.le_of_ble_eq_true rfl⟩ ?_
  refine n_put (es' := [.inr (0, [vI 6, vI 8, vI 0, .ref (b + 1), .ref (b + 6), .ref (b + 7), .ref (b + 8), .ref (b + 9), .ref (b + 10), .ref (b + 11), .ref (b + 12), .null]), layPg G (b + 1) 0 (σ1 0), layPg G (b + 1) 1 (σ1 1), layPg G (b + 1) 2 (σ1 2), layPg G (b + 1) 3 (σ1 3), layPg G (b + 1) 4 (σ1 4), ia G 100 (fun _ => 0), ia G 30 (fun _ => 0), ia G 30 (fun _ => 0), ia G 30 (fun _ => 0), ia G 30 (fun _ => 0), ia G 30 (fun _ => 0)] ++ (iq G 30 (b + (12 + 1)) :: List.replicate 30 (ia G 40 (fun _ => 0)))) (ty := .array (.array (.int))) hC hK hF (fun _ h => h) (i := 0) rfl rfl q_w_X0 tyX0_ok nmX0 10 (by decide) q_f_X0_49 (by first | exact Or.inl rfl | exact Or.inr ⟨rfl, hnm, rfl⟩) (by decide +kernel) rfl rfl (Nat.le_of_ble_eq_true rfl) rfl dX0_init_89 ?_
  refine s_aload_n hC dX0_init_92 rfl 0 rfl ?_
  refine s_bipush hC dX0_init_93 (by decide) ?_
  refine s_bipush hC dX0_init_95 (by decide) ?_
  refine n_mna (es' := [.inr (0, [vI 6, vI 8, vI 0, .ref (b + 1), .ref (b + 6), .ref (b + 7), .ref (b + 8), .ref (b + 9), .ref (b + 10), .ref (b + 11), .ref (b + 12), .null]), layPg G (b + 1) 0 (σ1 0), layPg G (b + 1) 1 (σ1 1), layPg G (b + 1) 2 (σ1 2), layPg G (b + 1) 3 (σ1 3), layPg G (b + 1) 4 (σ1 4), ia G 100 (fun _ => 0), ia G 30 (fun _ => 0), ia G 30 (fun _ => 0), ia G 30 (fun _ => 0), ia G 30 (fun _ => 0), ia G 30 (fun _ => 0)] ++ (iq G 30 (b + (12 + 1)) :: List.replicate 30 (ia G 40 (fun _ => 0))) ++ [] ++ (iq G 30 (b + (43 + 1)) :: List.replicate 30 (ia G 40 (fun _ => 0)))) hC hKA hF (i := 43) rfl (N' := 30) (K' := 40) rfl rfl (by decide) (by decide) q_l_X0_47 rfl dX0_init_97 ⟨Nat.le_of_ble_eq_true rfl, Nat.le_of_ble_eq_true rfl⟩ ?_
  refine n_put (es' := [.inr (0, [vI 6, vI 8, vI 0, .ref (b + 1), .ref (b + 6), .ref (b + 7), .ref (b + 8), .ref (b + 9), .ref (b + 10), .ref (b + 11), .ref (b + 12), .ref (b + 43)]), layPg G (b + 1) 0 (σ1 0), layPg G (b + 1) 1 (σ1 1), layPg G (b + 1) 2 (σ1 2), layPg G (b + 1) 3 (σ1 3), layPg G (b + 1) 4 (σ1 4), ia G 100 (fun _ => 0), ia G 30 (fun _ => 0), ia G 30 (fun _ => 0), ia G 30 (fun _ => 0), ia G 30 (fun _ => 0), ia G 30 (fun _ => 0)] ++ (iq G 30 (b + (12 + 1)) :: List.replicate 30 (ia G 40 (fun _ => 0))) ++ [] ++ (iq G 30 (b + (43 + 1)) :: List.replicate 30 (ia G 40 (fun _ => 0)))) (ty := .array (.array (.int))) hC hK hF (fun _ h => h) (i := 0) rfl rfl q_w_X0 tyX0_ok nmX0 11 (by decide) q_f_X0_52 (by first | exact Or.inl rfl | exact Or.inr ⟨rfl, hnm, rfl⟩) (by decide +kernel) rfl rfl (Nat.le_of_ble_eq_true rfl) rfl dX0_init_101 ?_
  refine s_aload_n hC dX0_init_104 rfl 0 rfl ?_
  refine s_I (I' := JC G (layBook G b) 74 b F (iniB σ1)) (fun H h => h) ?_
  refine s_get hC hK ((JC.wd hF).1 _) (by decide) o_Book rfl q_w_X0 4 (by decide) q_f_X0_28 rfl dX0_init_105 ?_
  refine s_iconst hC dX0_init_108 ?_
  refine s_callS_U (As := [.ref (b + 6), vI ((-1))]) (rest := []) hC hKA 2 (m_J7_fill_53178 (JC.wd hF) (rg_iniB hσ1) (by decide) a_Book_6 (inR_c _ rfl)) (fun _ h => h.1) rfl (cb_of hC 2 q_c_yJ7_fill_53178 q_i_J7 q_m_X0_55 rfl rfl dd_yJ7_fill_53178 ⟨Nat.le_of_ble_eq_true rfl, Nat.le_of_ble_eq_true rfl⟩) q_s_yJ7_fill_53178 rfl (Nat.le_of_ble_eq_true rfl) dX0_init_109 ⟨Nat.le_of_ble_eq_true rfl, Nat.le_of_ble_eq_true rfl⟩ (fun σ2 hσ2 => ?_)
  refine s_aload_n hC dX0_init_112 rfl 0 rfl ?_
  refine s_get hC hK ((JC.wd hF).1 _) (by decide) o_Book rfl q_w_X0 5 (by decide) q_f_X0_32 rfl dX0_init_113 ?_
  refine s_iconst hC dX0_init_116 ?_
  refine s_callS_U (As := [.ref (b + 7), vI ((-1))]) (rest := []) hC hKA 2 (m_J7_fill_53178 (JC.wd hF) hσ2 (by decide) a_Book_7 (inR_c _ rfl)) (fun _ h => h.1) rfl (cb_of hC 2 q_c_yJ7_fill_53178 q_i_J7 q_m_X0_55 rfl rfl dd_yJ7_fill_53178 ⟨Nat.le_of_ble_eq_true rfl, Nat.le_of_ble_eq_true rfl⟩) q_s_yJ7_fill_53178 rfl (Nat.le_of_ble_eq_true rfl) dX0_init_117 ⟨Nat.le_of_ble_eq_true rfl, Nat.le_of_ble_eq_true rfl⟩ (fun σ3 hσ3 => ?_)
  exact s_vret hC hr dX0_init_120 (fun H hH => ⟨rfl, hσ3, hH⟩)
theorem dd_yX2_init : yX2_init.cls ≠ "java/lang/invoke/MethodHandle" ∧ yX2_init.cls ≠ "java/lang/invoke/VarHandle" ∧ (parseMethodDescriptor yX2_init.desc).map (fun d => d.parameters.length) = some 0 := by decide +kernel
set_option maxHeartbeats 4000000 in
set_option maxRecDepth 100000 in
theorem m_X2_init {l : Launch} {G : Gt} {b : Nat} {F : Heap → Prop} (hF : FrS b F) : MetS l yX2_init cX2_init 1 none { frames := 1, cells := 4, slots := 161, locals := 20 } G [.ref (b + 0)] (Cl G b [.inr (2, [.null, vI 0, vI 0, .null, .null, .null, vI 0, vI 0, vI 0])] F) (poU (JC G (layPad G b) 5 b F)) (fun q => b ≤ q) 4 161 f_X2_init := by
  refine met_of (by decide) (Nat.le_of_ble_eq_true rfl) ?_
  intro p e s m below meth c hC hKA hr hnm
  have hK := hKA.1
  unfold f_X2_init
  refine s_sub (L' := [(0, .ref (b + 0))]) [0] rfl ?_
  refine s_aload_n hC dX2_init_0 rfl 0 rfl ?_
  refine n_obj hC q_m_X2_3 dX2_init_1 (Nat.le_of_ble_eq_true rfl) (Nat.le_of_ble_eq_true rfl) ?_
  refine s_aload_n hC dX2_init_4 rfl 0 rfl ?_
  refine s_bipush hC dX2_init_5 (by decide) ?_
  refine n_newa (es' := [.inr (2, [.null, vI 0, vI 0, .null, .null, .null, vI 0, vI 0, vI 0]), ia G 80 (fun _ => 0)]) hC hK hF (i := 1) rfl (N' := 80) rfl (by decide) rfl dX2_init_7 ⟨Nat.le_of_ble_eq_true rfl, Nat.le_of_ble_eq_true rfl⟩ ?_
  refine n_put (es' := [.inr (2, [.ref (b + 1), vI 0, vI 0, .null, .null, .null, vI 0, vI 0, vI 0]), ia G 80 (fun _ => 0)]) (ty := .array (.int)) hC hK hF (fun _ h => h) (i := 0) rfl rfl q_w_X2 tyX2_ok nmX2 0 (by decide) q_f_X2_9 (by first | exact Or.inl rfl | exact Or.inr ⟨rfl, hnm, rfl⟩) (by decide +kernel) rfl rfl (Nat.le_of_ble_eq_true rfl) rfl dX2_init_9 ?_
  refine s_aload_n hC dX2_init_12 rfl 0 rfl ?_
  refine s_iconst hC dX2_init_13 ?_
  refine n_put (es' := [.inr (2, [.ref (b + 1), vI 0, vI 0, .null, .null, .null, vI 0, vI 0, vI 0]), ia G 80 (fun _ => 0)]) (ty := .int) hC hK hF (fun _ h => h) (i := 0) rfl rfl q_w_X2 tyX2_ok nmX2 1 (by decide) q_f_X2_15 (by first | exact Or.inl rfl | exact Or.inr ⟨rfl, hnm, rfl⟩) (by decide +kernel) rfl rfl (Nat.le_of_ble_eq_true rfl) rfl dX2_init_14 ?_
  refine s_aload_n hC dX2_init_17 rfl 0 rfl ?_
  refine s_iconst hC dX2_init_18 ?_
  refine n_put (es' := [.inr (2, [.ref (b + 1), vI 0, vI 0, .null, .null, .null, vI 0, vI 0, vI 0]), ia G 80 (fun _ => 0)]) (ty := .int) hC hK hF (fun _ h => h) (i := 0) rfl rfl q_w_X2 tyX2_ok nmX2 2 (by decide) q_f_X2_19 (by first | exact Or.inl rfl | exact Or.inr ⟨rfl, hnm, rfl⟩) (by decide +kernel) rfl rfl (Nat.le_of_ble_eq_true rfl) rfl dX2_init_19 ?_
  refine s_aload_n hC dX2_init_22 rfl 0 rfl ?_
  refine s_bipush hC dX2_init_23 (by decide) ?_
  refine n_newa (es' := [.inr (2, [.ref (b + 1), vI 0, vI 0, .null, .null, .null, vI 0, vI 0, vI 0]), ia G 80 (fun _ => 0), ia G 27 (fun _ => 0)]) hC hK hF (i := 2) rfl (N' := 27) rfl (by decide) rfl dX2_init_25 ⟨Nat.le_of_ble_eq_true rfl, Nat.le_of_ble_eq_true rfl⟩ ?_
  refine n_put (es' := [.inr (2, [.ref (b + 1), vI 0, vI 0, .ref (b + 2), .null, .null, vI 0, vI 0, vI 0]), ia G 80 (fun _ => 0), ia G 27 (fun _ => 0)]) (ty := .array (.int)) hC hK hF (fun _ h => h) (i := 0) rfl rfl q_w_X2 tyX2_ok nmX2 3 (by decide) q_f_X2_22 (by first | exact Or.inl rfl | exact Or.inr ⟨rfl, hnm, rfl⟩) (by decide +kernel) rfl rfl (Nat.le_of_ble_eq_true rfl) rfl dX2_init_27 ?_
  refine s_aload_n hC dX2_init_30 rfl 0 rfl ?_
  refine s_bipush hC dX2_init_31 (by decide) ?_
  refine n_newa (es' := [.inr (2, [.ref (b + 1), vI 0, vI 0, .ref (b + 2), .null, .null, vI 0, vI 0, vI 0]), ia G 80 (fun _ => 0), ia G 27 (fun _ => 0), ia G 27 (fun _ => 0)]) hC hK hF (i := 3) rfl (N' := 27) rfl (by decide) rfl dX2_init_33 ⟨Nat.le_of_ble_eq_true rfl, Nat.le_of_ble_eq_true rfl⟩ ?_
  refine n_put (es' := [.inr (2, [.ref (b + 1), vI 0, vI 0, .ref (b + 2), .ref (b + 3), .null, vI 0, vI 0, vI 0]), ia G 80 (fun _ => 0), ia G 27 (fun _ => 0), ia G 27 (fun _ => 0)]) (ty := .array (.int)) hC hK hF (fun _ h => h) (i := 0) rfl rfl q_w_X2 tyX2_ok nmX2 4 (by decide) q_f_X2_25 (by first | exact Or.inl rfl | exact Or.inr ⟨rfl, hnm, rfl⟩) (by decide +kernel) rfl rfl (Nat.le_of_ble_eq_true rfl) rfl dX2_init_35 ?_
  refine s_aload_n hC dX2_init_38 rfl 0 rfl ?_
  refine s_bipush hC dX2_init_39 (by decide) ?_
  refine n_newa (es' := [.inr (2, [.ref (b + 1), vI 0, vI 0, .ref (b + 2), .ref (b + 3), .null, vI 0, vI 0, vI 0]), ia G 80 (fun _ => 0), ia G 27 (fun _ => 0), ia G 27 (fun _ => 0), ia G 27 (fun _ => 0)]) hC hK hF (i := 4) rfl (N' := 27) rfl (by decide) rfl dX2_init_41 ⟨Nat.le_of_ble_eq_true rfl, Nat.le_of_ble_eq_true rfl⟩ ?_
  refine n_put (es' := [.inr (2, [.ref (b + 1), vI 0, vI 0, .ref (b + 2), .ref (b + 3), .ref (b + 4), vI 0, vI 0, vI 0]), ia G 80 (fun _ => 0), ia G 27 (fun _ => 0), ia G 27 (fun _ => 0), ia G 27 (fun _ => 0)]) (ty := .array (.int)) hC hK hF (fun _ h => h) (i := 0) rfl rfl q_w_X2 tyX2_ok nmX2 5 (by decide) q_f_X2_28 (by first | exact Or.inl rfl | exact Or.inr ⟨rfl, hnm, rfl⟩) (by decide +kernel) rfl rfl (Nat.le_of_ble_eq_true rfl) rfl dX2_init_43 ?_
  refine s_aload_n hC dX2_init_46 rfl 0 rfl ?_
  refine s_iconst hC dX2_init_47 ?_
  refine n_put (es' := [.inr (2, [.ref (b + 1), vI 0, vI 0, .ref (b + 2), .ref (b + 3), .ref (b + 4), vI 0, vI 0, vI 0]), ia G 80 (fun _ => 0), ia G 27 (fun _ => 0), ia G 27 (fun _ => 0), ia G 27 (fun _ => 0)]) (ty := .boolean) hC hK hF (fun _ h => h) (i := 0) rfl rfl q_w_X2 tyX2_ok nmX2 6 (by decide) q_f_X2_31 (by first | exact Or.inl rfl | exact Or.inr ⟨rfl, hnm, rfl⟩) (by decide +kernel) rfl rfl (Nat.le_of_ble_eq_true rfl) rfl dX2_init_48 ?_
  refine s_aload_n hC dX2_init_51 rfl 0 rfl ?_
  refine s_iconst hC dX2_init_52 ?_
  refine n_put (es' := [.inr (2, [.ref (b + 1), vI 0, vI 0, .ref (b + 2), .ref (b + 3), .ref (b + 4), vI 0, vI 0, vI 0]), ia G 80 (fun _ => 0), ia G 27 (fun _ => 0), ia G 27 (fun _ => 0), ia G 27 (fun _ => 0)]) (ty := .int) hC hK hF (fun _ h => h) (i := 0) rfl rfl q_w_X2 tyX2_ok nmX2 7 (by decide) q_f_X2_35 (by first | exact Or.inl rfl | exact Or.inr ⟨rfl, hnm, rfl⟩) (by decide +kernel) rfl rfl (Nat.le_of_ble_eq_true rfl) rfl dX2_init_53 ?_
  refine s_aload_n hC dX2_init_56 rfl 0 rfl ?_
  refine s_iconst hC dX2_init_57 ?_
  refine n_put (es' := [.inr (2, [.ref (b + 1), vI 0, vI 0, .ref (b + 2), .ref (b + 3), .ref (b + 4), vI 0, vI 0, vI 0]), ia G 80 (fun _ => 0), ia G 27 (fun _ => 0), ia G 27 (fun _ => 0), ia G 27 (fun _ => 0)]) (ty := .int) hC hK hF (fun _ h => h) (i := 0) rfl rfl q_w_X2 tyX2_ok nmX2 8 (by decide) q_f_X2_38 (by first | exact Or.inl rfl | exact Or.inr ⟨rfl, hnm, rfl⟩) (by decide +kernel) rfl rfl (Nat.le_of_ble_eq_true rfl) rfl dX2_init_58 ?_
  refine s_I (I' := JC G (layPad G b) 5 b F (fun _ _ => 0)) (fun H h => h) ?_
  exact s_vret hC hr dX2_init_61 (fun H hH => ⟨rfl, rg_0, hH⟩)
theorem dd_yX1_init : yX1_init.cls ≠ "java/lang/invoke/MethodHandle" ∧ yX1_init.cls ≠ "java/lang/invoke/VarHandle" ∧ (parseMethodDescriptor yX1_init.desc).map (fun d => d.parameters.length) = some 0 := by decide +kernel
set_option maxHeartbeats 4000000 in
set_option maxRecDepth 100000 in
theorem m_X1_init {l : Launch} {G : Gt} {b : Nat} {F : Heap → Prop} (hF : FrS b F) : MetS l yX1_init cX1_init 1 none { frames := 1, cells := 1, slots := 6, locals := 20 } G [.ref (b + 0)] (Cl G b [.inr (1, [.null, vI 0, vI 0])] F) (poU (JC G (layHi G b) 2 b F)) (fun q => b ≤ q) 1 6 f_X1_init := by
  refine met_of (by decide) (Nat.le_of_ble_eq_true rfl) ?_
  intro p e s m below meth c hC hKA hr hnm
  have hK := hKA.1
  unfold f_X1_init
  refine s_sub (L' := [(0, .ref (b + 0))]) [0] rfl ?_
  refine s_aload_n hC dX1_init_0 rfl 0 rfl ?_
  refine n_obj hC q_m_X1_3 dX1_init_1 (Nat.le_of_ble_eq_true rfl) (Nat.le_of_ble_eq_true rfl) ?_
  refine s_aload_n hC dX1_init_4 rfl 0 rfl ?_
  refine s_bipush hC dX1_init_5 (by decide) ?_
  refine n_newq (es' := [.inr (1, [.null, vI 0, vI 0]), .inl (G.2.2.2, (6, .inr (.inr (.inr (.inr (fun _ => none))))))]) hC hKA hF (i := 1) rfl (N' := 6) rfl (by decide) q_l_X1_9 rfl dX1_init_7 ⟨Nat.le_of_ble_eq_true rfl, Nat.le_of_ble_eq_true rfl⟩ ?_
  refine n_put (es' := [.inr (1, [.ref (b + 1), vI 0, vI 0]), .inl (G.2.2.2, (6, .inr (.inr (.inr (.inr (fun _ => none))))))]) (ty := .array (.object "OverflowRows$Book")) hC hK hF (fun _ h => h) (i := 0) rfl rfl q_w_X1 tyX1_ok nmX1 0 (by decide) q_f_X1_11 (by first | exact Or.inl rfl | exact Or.inr ⟨rfl, hnm, rfl⟩) (by decide +kernel) rfl rfl (Nat.le_of_ble_eq_true rfl) rfl dX1_init_10 ?_
  refine s_aload_n hC dX1_init_13 rfl 0 rfl ?_
  refine s_iconst hC dX1_init_14 ?_
  refine n_put (es' := [.inr (1, [.ref (b + 1), vI 0, vI 0]), .inl (G.2.2.2, (6, .inr (.inr (.inr (.inr (fun _ => none))))))]) (ty := .int) hC hK hF (fun _ h => h) (i := 0) rfl rfl q_w_X1 tyX1_ok nmX1 1 (by decide) q_f_X1_17 (by first | exact Or.inl rfl | exact Or.inr ⟨rfl, hnm, rfl⟩) (by decide +kernel) rfl rfl (Nat.le_of_ble_eq_true rfl) rfl dX1_init_15 ?_
  refine s_aload_n hC dX1_init_18 rfl 0 rfl ?_
  refine s_iconst hC dX1_init_19 ?_
  refine n_put (es' := [.inr (1, [.ref (b + 1), vI 0, vI 0]), .inl (G.2.2.2, (6, .inr (.inr (.inr (.inr (fun _ => none))))))]) (ty := .int) hC hK hF (fun _ h => h) (i := 0) rfl rfl q_w_X1 tyX1_ok nmX1 2 (by decide) q_f_X1_21 (by first | exact Or.inl rfl | exact Or.inr ⟨rfl, hnm, rfl⟩) (by decide +kernel) rfl rfl (Nat.le_of_ble_eq_true rfl) rfl dX1_init_20 ?_
  refine s_I (I' := JC G (layHi G b) 2 b F iniH) (fun H h => h) ?_
  exact s_vret hC hr dX1_init_23 (fun H hH => ⟨rfl, rg_iniH, hH⟩)
theorem dd_yX5_init : yX5_init.cls ≠ "java/lang/invoke/MethodHandle" ∧ yX5_init.cls ≠ "java/lang/invoke/VarHandle" ∧ (parseMethodDescriptor yX5_init.desc).map (fun d => d.parameters.length) = some 0 := by decide +kernel
set_option maxHeartbeats 4000000 in
set_option maxRecDepth 100000 in
theorem m_X5_init {l : Launch} {G : Gt} {b : Nat} {F : Heap → Prop} (hF : FrS b F) : MetS l yX5_init cX5_init 1 none { frames := 1, cells := 9, slots := 8555, locals := 20 } G [.ref (b + 0)] (Cl G b [.inr (5, [.null, .null, .null, .null, vI 0, .null, .null, .null, vI 0, .null, vI 0, .null, vI 0])] F) (poU (JC G (layModel G b) 10 b F)) (fun q => b ≤ q) 9 8555 f_X5_init := by
  refine met_of (by decide) (Nat.le_of_ble_eq_true rfl) ?_
  intro p e s m below meth c hC hKA hr hnm
  have hK := hKA.1
  unfold f_X5_init
  refine s_sub (L' := [(0, .ref (b + 0))]) [0] rfl ?_
  refine s_aload_n hC dX5_init_0 rfl 0 rfl ?_
  refine n_obj hC q_m_X5_1 dX5_init_1 (Nat.le_of_ble_eq_true rfl) (Nat.le_of_ble_eq_true rfl) ?_
  refine s_aload_n hC dX5_init_4 rfl 0 rfl ?_
  refine s_sipush hC dX5_init_5 (by decide) ?_
  refine n_newa (es' := [.inr (5, [.null, .null, .null, .null, vI 0, .null, .null, .null, vI 0, .null, vI 0, .null, vI 0]), ia G 763 (fun _ => 0)]) hC hK hF (i := 1) rfl (N' := 763) rfl (by decide) rfl dX5_init_8 ⟨Nat.le_of_ble_eq_true rfl, Nat.le_of_ble_eq_true rfl⟩ ?_
  refine n_put (es' := [.inr (5, [.ref (b + 1), .null, .null, .null, vI 0, .null, .null, .null, vI 0, .null, vI 0, .null, vI 0]), ia G 763 (fun _ => 0)]) (ty := .array (.int)) hC hK hF (fun _ h => h) (i := 0) rfl rfl q_w_X5 tyX5_ok nmX5 0 (by decide) q_f_X5_7 (by first | exact Or.inl rfl | exact Or.inr ⟨rfl, hnm, rfl⟩) (by decide +kernel) rfl rfl (Nat.le_of_ble_eq_true rfl) rfl dX5_init_10 ?_
  refine s_aload_n hC dX5_init_13 rfl 0 rfl ?_
  refine s_sipush hC dX5_init_14 (by decide) ?_
  refine n_newa (es' := [.inr (5, [.ref (b + 1), .null, .null, .null, vI 0, .null, .null, .null, vI 0, .null, vI 0, .null, vI 0]), ia G 763 (fun _ => 0), ia G 763 (fun _ => 0)]) hC hK hF (i := 2) rfl (N' := 763) rfl (by decide) rfl dX5_init_17 ⟨Nat.le_of_ble_eq_true rfl, Nat.le_of_ble_eq_true rfl⟩ ?_
  refine n_put (es' := [.inr (5, [.ref (b + 1), .ref (b + 2), .null, .null, vI 0, .null, .null, .null, vI 0, .null, vI 0, .null, vI 0]), ia G 763 (fun _ => 0), ia G 763 (fun _ => 0)]) (ty := .array (.int)) hC hK hF (fun _ h => h) (i := 0) rfl rfl q_w_X5 tyX5_ok nmX5 1 (by decide) q_f_X5_13 (by first | exact Or.inl rfl | exact Or.inr ⟨rfl, hnm, rfl⟩) (by decide +kernel) rfl rfl (Nat.le_of_ble_eq_true rfl) rfl dX5_init_19 ?_
  refine s_aload_n hC dX5_init_22 rfl 0 rfl ?_
  refine s_sipush hC dX5_init_23 (by decide) ?_
  refine n_newa (es' := [.inr (5, [.ref (b + 1), .ref (b + 2), .null, .null, vI 0, .null, .null, .null, vI 0, .null, vI 0, .null, vI 0]), ia G 763 (fun _ => 0), ia G 763 (fun _ => 0), ia G 763 (fun _ => 0)]) hC hK hF (i := 3) rfl (N' := 763) rfl (by decide) rfl dX5_init_26 ⟨Nat.le_of_ble_eq_true rfl, Nat.le_of_ble_eq_true rfl⟩ ?_
  refine n_put (es' := [.inr (5, [.ref (b + 1), .ref (b + 2), .ref (b + 3), .null, vI 0, .null, .null, .null, vI 0, .null, vI 0, .null, vI 0]), ia G 763 (fun _ => 0), ia G 763 (fun _ => 0), ia G 763 (fun _ => 0)]) (ty := .array (.int)) hC hK hF (fun _ h => h) (i := 0) rfl rfl q_w_X5 tyX5_ok nmX5 2 (by decide) q_f_X5_16 (by first | exact Or.inl rfl | exact Or.inr ⟨rfl, hnm, rfl⟩) (by decide +kernel) rfl rfl (Nat.le_of_ble_eq_true rfl) rfl dX5_init_28 ?_
  refine s_aload_n hC dX5_init_31 rfl 0 rfl ?_
  refine s_sipush hC dX5_init_32 (by decide) ?_
  refine n_newa (es' := [.inr (5, [.ref (b + 1), .ref (b + 2), .ref (b + 3), .null, vI 0, .null, .null, .null, vI 0, .null, vI 0, .null, vI 0]), ia G 763 (fun _ => 0), ia G 763 (fun _ => 0), ia G 763 (fun _ => 0), ia G 4578 (fun _ => 0)]) hC hK hF (i := 4) rfl (N' := 4578) rfl (by decide) rfl dX5_init_35 ⟨Nat.le_of_ble_eq_true rfl, Nat.le_of_ble_eq_true rfl⟩ ?_
  refine n_put (es' := [.inr (5, [.ref (b + 1), .ref (b + 2), .ref (b + 3), .ref (b + 4), vI 0, .null, .null, .null, vI 0, .null, vI 0, .null, vI 0]), ia G 763 (fun _ => 0), ia G 763 (fun _ => 0), ia G 763 (fun _ => 0), ia G 4578 (fun _ => 0)]) (ty := .array (.int)) hC hK hF (fun _ h => h) (i := 0) rfl rfl q_w_X5 tyX5_ok nmX5 3 (by decide) q_f_X5_19 (by first | exact Or.inl rfl | exact Or.inr ⟨rfl, hnm, rfl⟩) (by decide +kernel) rfl rfl (Nat.le_of_ble_eq_true rfl) rfl dX5_init_37 ?_
  refine s_aload_n hC dX5_init_40 rfl 0 rfl ?_
  refine s_sipush hC dX5_init_41 (by decide) ?_
  refine n_newa (es' := [.inr (5, [.ref (b + 1), .ref (b + 2), .ref (b + 3), .ref (b + 4), vI 0, .null, .null, .null, vI 0, .null, vI 0, .null, vI 0]), ia G 763 (fun _ => 0), ia G 763 (fun _ => 0), ia G 763 (fun _ => 0), ia G 4578 (fun _ => 0), ia G 1526 (fun _ => 0)]) hC hK hF (i := 5) rfl (N' := 1526) rfl (by decide) rfl dX5_init_44 ⟨Nat.le_of_ble_eq_true rfl, Nat.le_of_ble_eq_true rfl⟩ ?_
  refine n_put (es' := [.inr (5, [.ref (b + 1), .ref (b + 2), .ref (b + 3), .ref (b + 4), vI 0, .ref (b + 5), .null, .null, vI 0, .null, vI 0, .null, vI 0]), ia G 763 (fun _ => 0), ia G 763 (fun _ => 0), ia G 763 (fun _ => 0), ia G 4578 (fun _ => 0), ia G 1526 (fun _ => 0)]) (ty := .array (.int)) hC hK hF (fun _ h => h) (i := 0) rfl rfl q_w_X5 tyX5_ok nmX5 5 (by decide) q_f_X5_22 (by first | exact Or.inl rfl | exact Or.inr ⟨rfl, hnm, rfl⟩) (by decide +kernel) rfl rfl (Nat.le_of_ble_eq_true rfl) rfl dX5_init_46 ?_
  refine s_aload_n hC dX5_init_49 rfl 0 rfl ?_
  refine s_iconst hC dX5_init_50 ?_
  refine n_newa (es' := [.inr (5, [.ref (b + 1), .ref (b + 2), .ref (b + 3), .ref (b + 4), vI 0, .ref (b + 5), .null, .null, vI 0, .null, vI 0, .null, vI 0]), ia G 763 (fun _ => 0), ia G 763 (fun _ => 0), ia G 763 (fun _ => 0), ia G 4578 (fun _ => 0), ia G 1526 (fun _ => 0), ia G 2 (fun _ => 0)]) hC hK hF (i := 6) rfl (N' := 2) rfl (by decide) rfl dX5_init_51 ⟨Nat.le_of_ble_eq_true rfl, Nat.le_of_ble_eq_true rfl⟩ ?_
  refine n_put (es' := [.inr (5, [.ref (b + 1), .ref (b + 2), .ref (b + 3), .ref (b + 4), vI 0, .ref (b + 5), .ref (b + 6), .null, vI 0, .null, vI 0, .null, vI 0]), ia G 763 (fun _ => 0), ia G 763 (fun _ => 0), ia G 763 (fun _ => 0), ia G 4578 (fun _ => 0), ia G 1526 (fun _ => 0), ia G 2 (fun _ => 0)]) (ty := .array (.int)) hC hK hF (fun _ h => h) (i := 0) rfl rfl q_w_X5 tyX5_ok nmX5 6 (by decide) q_f_X5_25 (by first | exact Or.inl rfl | exact Or.inr ⟨rfl, hnm, rfl⟩) (by decide +kernel) rfl rfl (Nat.le_of_ble_eq_true rfl) rfl dX5_init_53 ?_
  refine s_aload_n hC dX5_init_56 rfl 0 rfl ?_
  refine s_bipush hC dX5_init_57 (by decide) ?_
  refine n_newa (es' := [.inr (5, [.ref (b + 1), .ref (b + 2), .ref (b + 3), .ref (b + 4), vI 0, .ref (b + 5), .ref (b + 6), .null, vI 0, .null, vI 0, .null, vI 0]), ia G 763 (fun _ => 0), ia G 763 (fun _ => 0), ia G 763 (fun _ => 0), ia G 4578 (fun _ => 0), ia G 1526 (fun _ => 0), ia G 2 (fun _ => 0), ia G 80 (fun _ => 0)]) hC hK hF (i := 7) rfl (N' := 80) rfl (by decide) rfl dX5_init_59 ⟨Nat.le_of_ble_eq_true rfl, Nat.le_of_ble_eq_true rfl⟩ ?_
  refine n_put (es' := [.inr (5, [.ref (b + 1), .ref (b + 2), .ref (b + 3), .ref (b + 4), vI 0, .ref (b + 5), .ref (b + 6), .ref (b + 7), vI 0, .null, vI 0, .null, vI 0]), ia G 763 (fun _ => 0), ia G 763 (fun _ => 0), ia G 763 (fun _ => 0), ia G 4578 (fun _ => 0), ia G 1526 (fun _ => 0), ia G 2 (fun _ => 0), ia G 80 (fun _ => 0)]) (ty := .array (.int)) hC hK hF (fun _ h => h) (i := 0) rfl rfl q_w_X5 tyX5_ok nmX5 7 (by decide) q_f_X5_28 (by first | exact Or.inl rfl | exact Or.inr ⟨rfl, hnm, rfl⟩) (by decide +kernel) rfl rfl (Nat.le_of_ble_eq_true rfl) rfl dX5_init_61 ?_
  refine s_aload_n hC dX5_init_64 rfl 0 rfl ?_
  refine s_bipush hC dX5_init_65 (by decide) ?_
  refine n_newa (es' := [.inr (5, [.ref (b + 1), .ref (b + 2), .ref (b + 3), .ref (b + 4), vI 0, .ref (b + 5), .ref (b + 6), .ref (b + 7), vI 0, .null, vI 0, .null, vI 0]), ia G 763 (fun _ => 0), ia G 763 (fun _ => 0), ia G 763 (fun _ => 0), ia G 4578 (fun _ => 0), ia G 1526 (fun _ => 0), ia G 2 (fun _ => 0), ia G 80 (fun _ => 0), ia G 40 (fun _ => 0)]) hC hK hF (i := 8) rfl (N' := 40) rfl (by decide) rfl dX5_init_67 ⟨Nat.le_of_ble_eq_true rfl, Nat.le_of_ble_eq_true rfl⟩ ?_
  refine n_put (es' := [.inr (5, [.ref (b + 1), .ref (b + 2), .ref (b + 3), .ref (b + 4), vI 0, .ref (b + 5), .ref (b + 6), .ref (b + 7), vI 0, .ref (b + 8), vI 0, .null, vI 0]), ia G 763 (fun _ => 0), ia G 763 (fun _ => 0), ia G 763 (fun _ => 0), ia G 4578 (fun _ => 0), ia G 1526 (fun _ => 0), ia G 2 (fun _ => 0), ia G 80 (fun _ => 0), ia G 40 (fun _ => 0)]) (ty := .array (.int)) hC hK hF (fun _ h => h) (i := 0) rfl rfl q_w_X5 tyX5_ok nmX5 9 (by decide) q_f_X5_31 (by first | exact Or.inl rfl | exact Or.inr ⟨rfl, hnm, rfl⟩) (by decide +kernel) rfl rfl (Nat.le_of_ble_eq_true rfl) rfl dX5_init_69 ?_
  refine s_aload_n hC dX5_init_72 rfl 0 rfl ?_
  refine s_bipush hC dX5_init_73 (by decide) ?_
  refine n_newa (es' := [.inr (5, [.ref (b + 1), .ref (b + 2), .ref (b + 3), .ref (b + 4), vI 0, .ref (b + 5), .ref (b + 6), .ref (b + 7), vI 0, .ref (b + 8), vI 0, .null, vI 0]), ia G 763 (fun _ => 0), ia G 763 (fun _ => 0), ia G 763 (fun _ => 0), ia G 4578 (fun _ => 0), ia G 1526 (fun _ => 0), ia G 2 (fun _ => 0), ia G 80 (fun _ => 0), ia G 40 (fun _ => 0), ia G 40 (fun _ => 0)]) hC hK hF (i := 9) rfl (N' := 40) rfl (by decide) rfl dX5_init_75 ⟨Nat.le_of_ble_eq_true rfl, Nat.le_of_ble_eq_true rfl⟩ ?_
  refine n_put (es' := [.inr (5, [.ref (b + 1), .ref (b + 2), .ref (b + 3), .ref (b + 4), vI 0, .ref (b + 5), .ref (b + 6), .ref (b + 7), vI 0, .ref (b + 8), vI 0, .ref (b + 9), vI 0]), ia G 763 (fun _ => 0), ia G 763 (fun _ => 0), ia G 763 (fun _ => 0), ia G 4578 (fun _ => 0), ia G 1526 (fun _ => 0), ia G 2 (fun _ => 0), ia G 80 (fun _ => 0), ia G 40 (fun _ => 0), ia G 40 (fun _ => 0)]) (ty := .array (.int)) hC hK hF (fun _ h => h) (i := 0) rfl rfl q_w_X5 tyX5_ok nmX5 11 (by decide) q_f_X5_34 (by first | exact Or.inl rfl | exact Or.inr ⟨rfl, hnm, rfl⟩) (by decide +kernel) rfl rfl (Nat.le_of_ble_eq_true rfl) rfl dX5_init_77 ?_
  refine s_aload_n hC dX5_init_80 rfl 0 rfl ?_
  refine s_I (I' := JC G (layModel G b) 10 b F (fun _ _ => 0)) (fun H h => h) ?_
  refine s_get hC hK ((JC.wd hF).1 _) (by decide) o_Model rfl q_w_X5 0 (by decide) q_f_X5_7 rfl dX5_init_81 ?_
  refine s_iconst hC dX5_init_84 ?_
  refine s_bipush hC dX5_init_85 (by decide) ?_
  refine s_iastore hC hK (JC.wd hF) (fun _ h => h.1) rg_0 (inR_c _ rfl) (by decide) a_Model_1 dX5_init_87 (fun σ1 hσ1 => ?_)
  refine s_aload_n hC dX5_init_88 rfl 0 rfl ?_
  refine s_get hC hK ((JC.wd hF).1 _) (by decide) o_Model rfl q_w_X5 0 (by decide) q_f_X5_7 rfl dX5_init_89 ?_
  refine s_iconst hC dX5_init_92 ?_
  refine s_bipush hC dX5_init_93 (by decide) ?_
  refine s_iastore hC hK (JC.wd hF) (fun _ h => h.1) hσ1 (inR_c _ rfl) (by decide) a_Model_1 dX5_init_95 (fun σ2 hσ2 => ?_)
  exact s_vret hC hr dX5_init_96 (fun H hH => ⟨rfl, hσ2, hH⟩)
