/-! OverflowRows(): its Pad and its History are made over a nest mate's private constructor -/
def iniX (π η : Blk) : Blk := fun c j => if c = 0 then (if j = 4 then 1 else 0) else if c < 6 then π (c - 1) j else if c = 6 then η 0 j else -1
def g_X4_init : Option (Blk × Blk × Blk) :=
  Option.bind g_X2_init fun π =>
  Option.bind g_X1_init fun η =>
  Option.bind g_X0_init fun β0 =>
  Option.bind g_X0_init fun β1 =>
  some (iniX π η, β0, β1)
theorem rg_iniX {π η : Blk} (h : Rg π) (hη : Rg η) : Rg (iniX π η) := by
  intro c j
  unfold iniX
  split
  · split <;> exact inR_c _ rfl
  · split
    · exact h _ _
    · split
      · exact hη _ _
      · exact inR_c _ rfl
/-- the new object: 205 cells from x on -/
def X4new (G : Gt) (x : Nat) (F : Heap → Prop) (z : Blk × Blk × Blk) (H : Heap) : Prop := H.size = x + 205 ∧ (∀ y0, Bk G (layX G x y0) 9 x z.1 H) ∧ Bk G (layBook G (x + 9)) 98 (x + 9) z.2.1 H ∧ Bk G (layBook G (x + 107)) 98 (x + 107) z.2.2 H ∧ F H
theorem x4_end {G : Gt} {b : Nat} {F : Heap → Prop} {π η β0 β1 : Blk} {H : Heap} (h : Cl G b ([.inr (5, [.ref (b + 1), .ref (b + 6), .ref (b + 8), .ref (b + 9), .ref (b + 107)]), layPad G (b + 1) 0 (π 0), layPad G (b + 1) 1 (π 1), layPad G (b + 1) 2 (π 2), layPad G (b + 1) 3 (π 3), layPad G (b + 1) 4 (π 4), layHi G (b + 6) 0 (η 0), layHi G (b + 6) 1 (η 1), .inl (G.2.2.2, (2, .inr (.inr (.inr (.inr (fun _ => none))))))] ++ lsL (layBook G (b + 9)) 98 β0 ++ lsL (layBook G (b + 107)) 98 β1) F H) : X4new G b F (iniX π η, β0, β1) H := by
  obtain ⟨h1, h2, h3⟩ := h
  rw [List.length_append, List.length_append, lsL_len, lsL_len] at h1
  refine ⟨by rw [h1]; rfl, fun y0 i hi => ?_, fun i hi => ?_, fun i hi => ?_, h3⟩
  · match i, hi with
    | 0, _ => exact h2 0 _ rfl
    | 1, _ => exact h2 1 _ rfl
    | 2, _ => exact h2 2 _ rfl
    | 3, _ => exact h2 3 _ rfl
    | 4, _ => exact h2 4 _ rfl
    | 5, _ => exact h2 5 _ rfl
    | 6, _ => exact h2 6 _ rfl
    | 7, _ => exact h2 7 _ rfl
    | 8, _ => exact h2 8 _ rfl
  · have h9 := h2 (9 + i) (layBook G (b + 9) i (β0 i)) (by
      rw [List.getElem?_append_left (by rw [List.length_append, lsL_len]; show 9 + i < 9 + 98; omega), List.getElem?_append_right (by show 9 ≤ 9 + i; omega)]
      show (lsL _ 98 β0)[9 + i - 9]? = _
      rw [Nat.add_sub_cancel_left]
      simp [lsL, hi])
    rw [← Nat.add_assoc] at h9
    exact h9
  · have h9 := h2 (107 + i) (layBook G (b + 107) i (β1 i)) (by
      rw [List.getElem?_append_right (by rw [List.length_append, lsL_len]; show 9 + 98 ≤ 107 + i; omega), List.length_append, lsL_len]
      show (lsL _ 98 β1)[107 + i - 107]? = _
      rw [Nat.add_sub_cancel_left]
      simp [lsL, hi])
    rw [← Nat.add_assoc] at h9
    exact h9
def poX4 (G : Gt) (x : Nat) (F : Heap → Prop) (z : Blk × Blk × Blk) (v : Option Value) (H : Heap) : Prop := v = none ∧ Rg z.1 ∧ Rg z.2.1 ∧ Rg z.2.2 ∧ X4new G x F z H
theorem dd_yX4_init : yX4_init.cls ≠ "java/lang/invoke/MethodHandle" ∧ yX4_init.cls ≠ "java/lang/invoke/VarHandle" ∧ (parseMethodDescriptor yX4_init.desc).map (fun d => d.parameters.length) = some 0 := by decide +kernel
set_option maxHeartbeats 4000000 in
set_option maxRecDepth 100000 in
theorem m_X4_init {l : Launch} {G : Gt} {b : Nat} {F : Heap → Prop} (hF : FrS b F) : ∀ z, g_X4_init = some z → Met l yX4_init (.code yX4_init cX4_init 1 none :: lw_g) { frames := 3, cells := 204, slots := 8101, locals := 64 } (va_Pc [.ref (b + 0)] (fun U => Cl G b [.inr (5, [.null, .null, .null, .null, .null])] F U.heap ∧ KA G U)) (Qm (poX4 G b F z) (fun q => b ≤ q)) 204 8101 (fun q => b ≤ q) := by
  intro z hz
  refine Met.ofW (cc := cX4_init) (maxL := 1) (ret := none) (by decide) rfl ?_
  intro p e s m args below meth c s₁ BB hml hv
  obtain ⟨rfl, hI, hKA⟩ := hv
  rw [lg_entry_eq]
  have hK := hKA.1
  have hnm := (name_of_methodNamed BB.named BB.method).1
  have hr := BB.returns
  have hC : Cx p s m [Value.ref (b + 0)].toArray meth c cX4_init 1 yX4_init.cls := ⟨BB.exec, BB.bytes, hml, findClass_of_methodNamed BB.named, fun w hw => atoms_spec (ws := .code yX4_init cX4_init 1 none :: lw_g) BB.pre w (List.mem_cons_of_mem _ hw), BB.notSynchronized⟩
  have key : Sim p l e { frames := 3, cells := 204, slots := 8101, locals := 64 } s m [Value.ref (b + 0)].toArray below meth c 1 (fun q => b ≤ q) (fun z => MQ below (Qm (poX4 G b F z) (fun q => b ≤ q)) [Value.ref (b + 0)].toArray s 204 8101 (fun q => b ≤ q)) 0 0 (Cl G b [.inr (5, [.null, .null, .null, .null, .null])] F) 0 [(0, .ref (b + 0))] [] g_X4_init := by
    unfold g_X4_init
    refine s_aload_n hC dX4_init_0 rfl 0 rfl ?_
    refine n_obj hC q_m_X4_3 dX4_init_1 (Nat.le_of_ble_eq_true rfl) (Nat.le_of_ble_eq_true rfl) ?_
    refine s_aload_n hC dX4_init_4 rfl 0 rfl ?_
    refine n_new (es' := [.inr (5, [.null, .null, .null, .null, .null]), .inr (2, [.null, vI 0, vI 0, .null, .null, .null, vI 0, vI 0, vI 0])]) hC hK hF (i := 1) rfl rfl q_w_X2 tyX2_ok q_l_X4_9 q_o_X2 q_i_X2 (fun j hj => by rcases (show j = 0 ∨ j = 1 ∨ j = 2 ∨ j = 3 ∨ j = 4 ∨ j = 5 ∨ j = 6 ∨ j = 7 ∨ j = 8 by omega) with rfl | rfl | rfl | rfl | rfl | rfl | rfl | rfl | rfl <;> rfl) rfl dX4_init_5 ⟨Nat.le_of_ble_eq_true rfl, Nat.le_of_ble_eq_true rfl⟩ ?_
    refine s_dup hC dX4_init_8 rfl ?_
    refine n_callN (y := yX2_init) (i := 1) (lay := layPad G (b + 1)) (N := 5) (pre := [.inr (5, [.null, .null, .null, .null, .null])]) hC hKA hF (fun _ h => h) (fun F' hF' => m_X2_init hF') rfl rfl (cn_of hC hKA 0 q_c_yX2_init q_i_X2 nwm_X4_11 rfl rfl dd_yX2_init ⟨Nat.le_of_ble_eq_true rfl, Nat.le_of_ble_eq_true rfl⟩) rfl q_i_yX2_init (Nat.le_of_ble_eq_true rfl) dX4_init_9 ⟨Nat.le_of_ble_eq_true rfl, Nat.le_of_ble_eq_true rfl⟩ (fun π hπ => ?_)
    refine s_I (I' := Cl G b ([.inr (5, [.null, .null, .null, .null, .null]), layPad G (b + 1) 0 (π 0), layPad G (b + 1) 1 (π 1), layPad G (b + 1) 2 (π 2), layPad G (b + 1) 3 (π 3), layPad G (b + 1) 4 (π 4)]) F) (fun H h => h) ?_
    refine n_put (es' := [.inr (5, [.ref (b + 1), .null, .null, .null, .null]), layPad G (b + 1) 0 (π 0), layPad G (b + 1) 1 (π 1), layPad G (b + 1) 2 (π 2), layPad G (b + 1) 3 (π 3), layPad G (b + 1) 4 (π 4)]) (ty := .object "OverflowRows$Pad") hC hK hF (fun _ h => h) (i := 0) rfl rfl q_w_X4 tyX4_ok nmX4 0 (by decide) q_f_X4_12 (by first | exact Or.inl rfl | exact Or.inr ⟨rfl, hnm, rfl⟩) (by decide +kernel) rfl rfl (Nat.le_of_ble_eq_true rfl) rfl dX4_init_12 ?_
    refine s_aload_n hC dX4_init_15 rfl 0 rfl ?_
    refine n_new (es' := [.inr (5, [.ref (b + 1), .null, .null, .null, .null]), layPad G (b + 1) 0 (π 0), layPad G (b + 1) 1 (π 1), layPad G (b + 1) 2 (π 2), layPad G (b + 1) 3 (π 3), layPad G (b + 1) 4 (π 4), .inr (1, [.null, vI 0, vI 0])]) hC hK hF (i := 6) rfl rfl q_w_X1 tyX1_ok q_l_X4_16 q_o_X1 q_i_X1 (fun j hj => by rcases (show j = 0 ∨ j = 1 ∨ j = 2 by omega) with rfl | rfl | rfl <;> rfl) rfl dX4_init_16 ⟨Nat.le_of_ble_eq_true rfl, Nat.le_of_ble_eq_true rfl⟩ ?_
    refine s_dup hC dX4_init_19 rfl ?_
    refine n_callN (y := yX1_init) (i := 6) (lay := layHi G (b + 6)) (N := 2) (pre := [.inr (5, [.ref (b + 1), .null, .null, .null, .null]), layPad G (b + 1) 0 (π 0), layPad G (b + 1) 1 (π 1), layPad G (b + 1) 2 (π 2), layPad G (b + 1) 3 (π 3), layPad G (b + 1) 4 (π 4)]) hC hKA hF (fun _ h => h) (fun F' hF' => m_X1_init hF') rfl rfl (cn_of hC hKA 0 q_c_yX1_init q_i_X1 nwm_X4_18 rfl rfl dd_yX1_init ⟨Nat.le_of_ble_eq_true rfl, Nat.le_of_ble_eq_true rfl⟩) rfl q_i_yX1_init (Nat.le_of_ble_eq_true rfl) dX4_init_20 ⟨Nat.le_of_ble_eq_true rfl, Nat.le_of_ble_eq_true rfl⟩ (fun η hη => ?_)
    refine s_I (I' := Cl G b ([.inr (5, [.ref (b + 1), .null, .null, .null, .null]), layPad G (b + 1) 0 (π 0), layPad G (b + 1) 1 (π 1), layPad G (b + 1) 2 (π 2), layPad G (b + 1) 3 (π 3), layPad G (b + 1) 4 (π 4), layHi G (b + 6) 0 (η 0), layHi G (b + 6) 1 (η 1)]) F) (fun H h => h) ?_
    refine n_put (es' := [.inr (5, [.ref (b + 1), .ref (b + 6), .null, .null, .null]), layPad G (b + 1) 0 (π 0), layPad G (b + 1) 1 (π 1), layPad G (b + 1) 2 (π 2), layPad G (b + 1) 3 (π 3), layPad G (b + 1) 4 (π 4), layHi G (b + 6) 0 (η 0), layHi G (b + 6) 1 (η 1)]) (ty := .object "OverflowRows$History") hC hK hF (fun _ h => h) (i := 0) rfl rfl q_w_X4 tyX4_ok nmX4 1 (by decide) q_f_X4_19 (by first | exact Or.inl rfl | exact Or.inr ⟨rfl, hnm, rfl⟩) (by decide +kernel) rfl rfl (Nat.le_of_ble_eq_true rfl) rfl dX4_init_23 ?_
    refine s_aload_n hC dX4_init_26 rfl 0 rfl ?_
    refine s_iconst hC dX4_init_27 ?_
    refine n_newq (es' := [.inr (5, [.ref (b + 1), .ref (b + 6), .null, .null, .null]), layPad G (b + 1) 0 (π 0), layPad G (b + 1) 1 (π 1), layPad G (b + 1) 2 (π 2), layPad G (b + 1) 3 (π 3), layPad G (b + 1) 4 (π 4), layHi G (b + 6) 0 (η 0), layHi G (b + 6) 1 (η 1), .inl (G.2.2.2, (2, .inr (.inr (.inr (.inr (fun _ => none))))))]) hC hKA hF (i := 8) rfl (N' := 2) rfl (by decide) q_l_X4_23 rfl dX4_init_28 ⟨Nat.le_of_ble_eq_true rfl, Nat.le_of_ble_eq_true rfl⟩ ?_
    refine n_put (es' := [.inr (5, [.ref (b + 1), .ref (b + 6), .ref (b + 8), .null, .null]), layPad G (b + 1) 0 (π 0), layPad G (b + 1) 1 (π 1), layPad G (b + 1) 2 (π 2), layPad G (b + 1) 3 (π 3), layPad G (b + 1) 4 (π 4), layHi G (b + 6) 0 (η 0), layHi G (b + 6) 1 (η 1), .inl (G.2.2.2, (2, .inr (.inr (.inr (.inr (fun _ => none))))))]) (ty := .array (.object "OverflowRows$Book")) hC hK hF (fun _ h => h) (i := 0) rfl rfl q_w_X4 tyX4_ok nmX4 2 (by decide) q_f_X4_25 (by first | exact Or.inl rfl | exact Or.inr ⟨rfl, hnm, rfl⟩) (by decide +kernel) rfl rfl (Nat.le_of_ble_eq_true rfl) rfl dX4_init_31 ?_
    refine s_aload_n hC dX4_init_34 rfl 0 rfl ?_
    refine n_new (es' := [.inr (5, [.ref (b + 1), .ref (b + 6), .ref (b + 8), .null, .null]), layPad G (b + 1) 0 (π 0), layPad G (b + 1) 1 (π 1), layPad G (b + 1) 2 (π 2), layPad G (b + 1) 3 (π 3), layPad G (b + 1) 4 (π 4), layHi G (b + 6) 0 (η 0), layHi G (b + 6) 1 (η 1), .inl (G.2.2.2, (2, .inr (.inr (.inr (.inr (fun _ => none)))))), .inr (0, [vI 0, vI 0, vI 0, .null, .null, .null])]) hC hK hF (i := 9) rfl rfl q_w_X0 tyX0_ok q_l_X4_23 q_o_X0 q_i_X0 (fun j hj => by rcases (show j = 0 ∨ j = 1 ∨ j = 2 ∨ j = 3 ∨ j = 4 ∨ j = 5 by omega) with rfl | rfl | rfl | rfl | rfl | rfl <;> rfl) rfl dX4_init_35 ⟨Nat.le_of_ble_eq_true rfl, Nat.le_of_ble_eq_true rfl⟩ ?_
    refine s_dup hC dX4_init_38 rfl ?_
    refine n_callC (y := yX0_init) (i := 9) (lay := layBook G (b + 9)) (N := 98) (pre := [.inr (5, [.ref (b + 1), .ref (b + 6), .ref (b + 8), .null, .null]), layPad G (b + 1) 0 (π 0), layPad G (b + 1) 1 (π 1), layPad G (b + 1) 2 (π 2), layPad G (b + 1) 3 (π 3), layPad G (b + 1) 4 (π 4), layHi G (b + 6) 0 (η 0), layHi G (b + 6) 1 (η 1), .inl (G.2.2.2, (2, .inr (.inr (.inr (.inr (fun _ => none))))))]) hC hKA hF (fun _ h => h) (fun F' hF' => m_X0_init hF') rfl rfl (cb_of hC 0 q_c_yX0_init q_i_X0 q_m_X4_29 rfl rfl dd_yX0_init ⟨Nat.le_of_ble_eq_true rfl, Nat.le_of_ble_eq_true rfl⟩) rfl q_i_yX0_init (Nat.le_of_ble_eq_true rfl) dX4_init_39 ⟨Nat.le_of_ble_eq_true rfl, Nat.le_of_ble_eq_true rfl⟩ (fun β0 hβ0 => ?_)
    refine n_put (es' := ([.inr (5, [.ref (b + 1), .ref (b + 6), .ref (b + 8), .ref (b + 9), .null]), layPad G (b + 1) 0 (π 0), layPad G (b + 1) 1 (π 1), layPad G (b + 1) 2 (π 2), layPad G (b + 1) 3 (π 3), layPad G (b + 1) 4 (π 4), layHi G (b + 6) 0 (η 0), layHi G (b + 6) 1 (η 1), .inl (G.2.2.2, (2, .inr (.inr (.inr (.inr (fun _ => none))))))] ++ lsL (layBook G (b + 9)) 98 β0)) (ty := .object "OverflowRows$Book") hC hK hF (fun _ h => h) (i := 0) rfl rfl q_w_X4 tyX4_ok nmX4 3 (by decide) q_f_X4_30 (by first | exact Or.inl rfl | exact Or.inr ⟨rfl, hnm, rfl⟩) (by decide +kernel) rfl rfl (Nat.le_of_ble_eq_true rfl) rfl dX4_init_42 ?_
    refine s_aload_n hC dX4_init_45 rfl 0 rfl ?_
    refine n_new (es' := ([.inr (5, [.ref (b + 1), .ref (b + 6), .ref (b + 8), .ref (b + 9), .null]), layPad G (b + 1) 0 (π 0), layPad G (b + 1) 1 (π 1), layPad G (b + 1) 2 (π 2), layPad G (b + 1) 3 (π 3), layPad G (b + 1) 4 (π 4), layHi G (b + 6) 0 (η 0), layHi G (b + 6) 1 (η 1), .inl (G.2.2.2, (2, .inr (.inr (.inr (.inr (fun _ => none))))))] ++ lsL (layBook G (b + 9)) 98 β0 ++ [.inr (0, [vI 0, vI 0, vI 0, .null, .null, .null])])) hC hK hF (i := 107) (by rw [List.length_append, lsL_len]; rfl) rfl q_w_X0 tyX0_ok q_l_X4_23 q_o_X0 q_i_X0 (fun j hj => by rcases (show j = 0 ∨ j = 1 ∨ j = 2 ∨ j = 3 ∨ j = 4 ∨ j = 5 by omega) with rfl | rfl | rfl | rfl | rfl | rfl <;> rfl) rfl dX4_init_46 ⟨Nat.le_of_ble_eq_true rfl, Nat.le_of_ble_eq_true rfl⟩ ?_
    refine s_dup hC dX4_init_49 rfl ?_
    refine n_callC (y := yX0_init) (i := 107) (lay := layBook G (b + 107)) (N := 98) (pre := ([.inr (5, [.ref (b + 1), .ref (b + 6), .ref (b + 8), .ref (b + 9), .null]), layPad G (b + 1) 0 (π 0), layPad G (b + 1) 1 (π 1), layPad G (b + 1) 2 (π 2), layPad G (b + 1) 3 (π 3), layPad G (b + 1) 4 (π 4), layHi G (b + 6) 0 (η 0), layHi G (b + 6) 1 (η 1), .inl (G.2.2.2, (2, .inr (.inr (.inr (.inr (fun _ => none))))))] ++ lsL (layBook G (b + 9)) 98 β0)) hC hKA hF (fun _ h => h) (fun F' hF' => m_X0_init hF') rfl (by rw [List.length_append, lsL_len]; rfl) (cb_of hC 0 q_c_yX0_init q_i_X0 q_m_X4_29 rfl rfl dd_yX0_init ⟨Nat.le_of_ble_eq_true rfl, Nat.le_of_ble_eq_true rfl⟩) rfl q_i_yX0_init (Nat.le_of_ble_eq_true rfl) dX4_init_50 ⟨Nat.le_of_ble_eq_true rfl, Nat.le_of_ble_eq_true rfl⟩ (fun β1 hβ1 => ?_)
    refine n_put (es' := ([.inr (5, [.ref (b + 1), .ref (b + 6), .ref (b + 8), .ref (b + 9), .ref (b + 107)]), layPad G (b + 1) 0 (π 0), layPad G (b + 1) 1 (π 1), layPad G (b + 1) 2 (π 2), layPad G (b + 1) 3 (π 3), layPad G (b + 1) 4 (π 4), layHi G (b + 6) 0 (η 0), layHi G (b + 6) 1 (η 1), .inl (G.2.2.2, (2, .inr (.inr (.inr (.inr (fun _ => none))))))] ++ lsL (layBook G (b + 9)) 98 β0 ++ lsL (layBook G (b + 107)) 98 β1)) (ty := .object "OverflowRows$Book") hC hK hF (fun _ h => h) (i := 0) rfl rfl q_w_X4 tyX4_ok nmX4 4 (by decide) q_f_X4_34 (by first | exact Or.inl rfl | exact Or.inr ⟨rfl, hnm, rfl⟩) (by decide +kernel) rfl rfl (Nat.le_of_ble_eq_true rfl) rfl dX4_init_53 ?_
    exact s_vret hC hr dX4_init_56 (fun H hH => ⟨rfl, rg_iniX hπ hη, hβ0, hβ1, x4_end hH⟩)
  exact key z hz s.heap [] _ hI va_S.rf (lv_entry [.ref (b + 0)] (Nat.le_of_ble_eq_true rfl))
