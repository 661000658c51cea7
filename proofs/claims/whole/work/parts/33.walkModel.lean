set_option maxHeartbeats 4000000 in
set_option maxRecDepth 100000 in
theorem m_X5_moves {l : Launch} {G : Gt} {b : Nat} {σ : Blk} {J : Blk → Heap → Prop} (hJ : Wd G (layModel G b) 10 b J) (hσ : Rg σ) {i1 n1 : Nat} (hi1 : i1 < 10) (ha1 : isA G (layModel G b) i1 n1) {a2 : Int} (h2 : inR a2) {i3 n3 : Nat} (hi3 : i3 < 10) (ha3 : isA G (layModel G b) i3 n3) {a4 : Int} (h4 : inR a4) : MetS l yX5_moves cX5_moves 5 none { frames := 0, cells := 0, slots := 0, locals := 0 } G [.ref (b + i1), vI a2, .ref (b + i3), vI a4] (J σ) (poU J) (Ab b 10) 0 0 (f_X5_moves σ i1 n1 a2 i3 n3 a4) := by
  refine met_of (by decide) (Nat.le_of_ble_eq_true rfl) ?_
  intro p e s m below meth c hC hKA hr _
  have hK := hKA.1
  unfold f_X5_moves
  refine s_sub (L' := [(0, .ref (b + i1)), (1, vI a2), (2, .ref (b + i3)), (3, vI a4)]) [0, 1, 2, 3] rfl ?_
  refine s_iconst hC dX5_moves_0 ?_
  refine s_istore (L' := [(4, vI 0), (0, .ref (b + i1)), (1, vI a2), (2, .ref (b + i3)), (3, vI a4)]) hC dX5_moves_1 (by decide) rfl ?_
  refine s_sub (L' := [(0, .ref (b + i1)), (1, vI a2), (2, .ref (b + i3)), (3, vI a4), (4, vI 0)]) [1, 2, 3, 4, 0] rfl ?_
  refine s_lp_IB (J := J) (F := f_X5_moves_L3 i1 n1 a2 i3 n3 a4) 3 (fun x1 => [(0, .ref (b + i1)), (1, vI a2), (2, .ref (b + i3)), (3, vI a4), (4, vI x1)]) (fun _ _ => rfl) (fun n ih3 x1 σ2 hx1 hσ2 => ?_) fu 0 σ (inR_c _ rfl) hσ
  rw [f_X5_moves_L3]
  refine s_iload hC dX5_moves_3 4 rfl ?_
  refine s_sipush hC dX5_moves_5 (by decide) ?_
  refine s_icmp_ge (tgt := 29) hC dX5_moves_8 (by decide) hx1 (inR_c _ rfl) ?_ ?_
  · refine s_sub (L' := []) [] rfl ?_
    exact s_vret hC hr dX5_moves_29 (fun H hH => ⟨rfl, hσ2, hH⟩)
  · refine s_aload_n hC dX5_moves_11 rfl 2 rfl ?_
    refine s_iload_n hC dX5_moves_12 rfl 3 rfl ?_
    refine s_iload hC dX5_moves_13 4 rfl ?_
    refine s_iadd hC dX5_moves_15 ?_
    refine s_aload_n hC dX5_moves_16 rfl 0 rfl ?_
    refine s_iload_n hC dX5_moves_17 rfl 1 rfl ?_
    refine s_iload hC dX5_moves_18 4 rfl ?_
    refine s_iadd hC dX5_moves_20 ?_
    refine s_iaload hC hK (hJ.1 σ2) hσ2 hi1 ha1 dX5_moves_21 (fun v3 hv3 => ?_)
    refine s_iastore hC hK hJ (fun _ h => h) hσ2 hv3 hi3 ha3 dX5_moves_22 (fun σ4 hσ4 => ?_)
    refine s_iincK hC dX5_moves_23 4 rfl (by decide) (fun v5 => [(4, vI v5), (0, .ref (b + i1)), (1, vI a2), (2, .ref (b + i3)), (3, vI a4)]) (fun _ => rfl) (fun v5 hv5 => ?_)
    refine s_goto (tgt := 3) hC dX5_moves_26 (by decide) ?_
    refine s_sub (L' := [(0, .ref (b + i1)), (1, vI a2), (2, .ref (b + i3)), (3, vI a4), (4, vI v5)]) [1, 2, 3, 4, 0] rfl ?_
    exact ih3 v5 σ4 hv5 hσ4
set_option maxHeartbeats 4000000 in
set_option maxRecDepth 100000 in
theorem m_X5_within {l : Launch} {G : Gt} {I : Heap → Prop} {a1 : Int} (h1 : inR a1) {a2 : Int} (h2 : inR a2) {a3 : Int} (h3 : inR a3) : MetS l yX5_within cX5_within 3 (some .boolean) { frames := 0, cells := 0, slots := 0, locals := 0 } G [vI a1, vI a2, vI a3] I (poP I) (fun _ => False) 0 0 (f_X5_within a1 a2 a3) := by
  refine met_of (by decide) (Nat.le_of_ble_eq_true rfl) ?_
  intro p e s m below meth c hC hKA hr _
  have hK := hKA.1
  unfold f_X5_within
  refine s_sub (L' := [(0, vI a1), (1, vI a2), (2, vI a3)]) [0, 1, 2] rfl ?_
  refine s_iload_n hC dX5_within_0 rfl 0 rfl ?_
  refine s_iload_n hC dX5_within_1 rfl 1 rfl ?_
  refine s_icmp_lt (tgt := 14) hC dX5_within_2 (by decide) h1 h2 ?_ ?_
  · refine s_sub (L' := []) [] rfl ?_
    refine s_iconst hC dX5_within_14 ?_
    exact s_zret hC hr (Or.inl rfl) dX5_within_15 (fun H hH => ⟨rfl, (inR_c _ rfl), hH⟩)
  · refine s_sub (L' := [(0, vI a1), (2, vI a3)]) [0, 2] rfl ?_
    refine s_iload_n hC dX5_within_5 rfl 0 rfl ?_
    refine s_iload_n hC dX5_within_6 rfl 1 rfl ?_
    refine s_icmp_gt (tgt := 14) hC dX5_within_7 (by decide) h1 h3 ?_ ?_
    · refine s_sub (L' := []) [] rfl ?_
      refine s_iconst hC dX5_within_14 ?_
      exact s_zret hC hr (Or.inl rfl) dX5_within_15 (fun H hH => ⟨rfl, (inR_c _ rfl), hH⟩)
    · refine s_sub (L' := []) [] rfl ?_
      refine s_iconst hC dX5_within_10 ?_
      refine s_goto (tgt := 15) hC dX5_within_11 (by decide) ?_
      exact s_zret hC hr (Or.inr rfl) dX5_within_15 (fun H hH => ⟨rfl, (inR_c _ rfl), hH⟩)
set_option maxHeartbeats 4000000 in
set_option maxRecDepth 100000 in
theorem m_X5_record {l : Launch} {G : Gt} {b : Nat} {σ : Blk} {J : Blk → Heap → Prop} (hJ : Wd G (layModel G b) 10 b J) (hσ : Rg σ) {i1 n1 : Nat} (hi1 : i1 < 10) (ha1 : isA G (layModel G b) i1 n1) : MetS l yX5_record cX5_record 3 none { frames := 1, cells := 0, slots := 0, locals := 24 } G [.ref (b + 0), .ref (b + i1)] (J σ) (poU J) (Ab b 10) 0 0 (f_X5_record σ i1 n1) := by
  refine met_of (by decide) (Nat.le_of_ble_eq_true rfl) ?_
  intro p e s m below meth c hC hKA hr _
  have hK := hKA.1
  unfold f_X5_record
  refine s_sub (L' := [(0, .ref (b + 0)), (1, .ref (b + i1))]) [0, 1] rfl ?_
  refine s_aload_n hC dX5_record_0 rfl 0 rfl ?_
  refine s_get (b := b) hC hK (hJ.1 σ) (by decide) o_Model rfl q_w_X5 4 (by decide) q_f_X5_37 rfl dX5_record_1 ?_
  refine s_bipush hC dX5_record_4 (by decide) ?_
  refine s_jp_B (J := J) 50 ([(0, .ref (b + 0)), (1, .ref (b + i1))]) ([]) (fun σ2 hσ2 => ?_) (fun j1 hj1 => ?_)
  · refine s_aload_n hC dX5_record_50 rfl 1 rfl ?_
    refine s_iconst hC dX5_record_51 ?_
    refine s_aload_n hC dX5_record_52 rfl 0 rfl ?_
    refine s_get (b := b) hC hK (hJ.1 σ2) (by decide) o_Model rfl q_w_X5 3 (by decide) q_f_X5_19 rfl dX5_record_53 ?_
    refine s_aload_n hC dX5_record_56 rfl 0 rfl ?_
    refine s_get (b := b) hC hK (hJ.1 σ2) (by decide) o_Model rfl q_w_X5 4 (by decide) q_f_X5_37 rfl dX5_record_57 ?_
    refine s_sipush hC dX5_record_60 (by decide) ?_
    refine s_imul hC dX5_record_63 ?_
    refine s_ck0 (fun v3 hv3 => ?_)
    refine s_callS_U (As := [.ref (b + i1), vI 0, .ref (b + 4), vI v3]) (rest := []) hC hKA 4 (m_X5_moves hJ hσ2 hi1 ha1 (inR_c _ rfl) (by decide) a_Model_4 hv3) (fun _ h => h) rfl (cb_of hC 4 q_c_yX5_moves q_i_X5 q_m_X5_41 rfl rfl dd_yX5_moves ⟨Nat.le_of_ble_eq_true rfl, Nat.le_of_ble_eq_true rfl⟩) q_s_yX5_moves rfl (Nat.le_of_ble_eq_true rfl) dX5_record_64 ⟨Nat.zero_le _, Nat.zero_le _⟩ (fun σ4 hσ4 => ?_)
    refine s_aload_n hC dX5_record_67 rfl 0 rfl ?_
    refine s_dup hC dX5_record_68 rfl ?_
    refine s_get (b := b) hC hK (hJ.1 σ4) (by decide) o_Model rfl q_w_X5 4 (by decide) q_f_X5_37 rfl dX5_record_69 ?_
    refine s_iconst hC dX5_record_72 ?_
    refine s_iadd hC dX5_record_73 ?_
    refine s_ck0 (fun v5 hv5 => ?_)
    refine s_putP (ty := .int) hC hK hJ (fun _ h => h) hσ4 hv5 (by decide) o_Model rfl q_w_X5 tyX5_ok nmX5 4 (by decide) q_f_X5_37 rfl (by decide +kernel) rfl rfl (fun _ => Nat.le_of_ble_eq_true rfl) u_Model_4 dX5_record_74 (fun σ6 hσ6 => ?_)
    exact s_vret hC hr dX5_record_77 (fun H hH => ⟨rfl, hσ6, hH⟩)
  · refine s_icmp_ne (tgt := 50) hC dX5_record_6 (by decide) (hσ 0 4) (inR_c _ rfl) ?_ ?_
    · exact hj1 σ hσ
    · refine s_iconst hC dX5_record_9 ?_
      refine s_istore_n (L' := [(2, vI 0), (0, .ref (b + 0)), (1, .ref (b + i1))]) hC dX5_record_10 rfl (by decide) rfl ?_
      refine s_sub (L' := [(0, .ref (b + 0)), (1, .ref (b + i1)), (2, vI 0)]) [1, 2, 0] rfl ?_
      refine s_jp_B (J := J) 40 ([(0, .ref (b + 0)), (1, .ref (b + i1))]) ([]) (fun σ8 hσ8 => ?_) (fun j7 hj7 => ?_)
      · refine s_aload_n hC dX5_record_40 rfl 0 rfl ?_
        refine s_dup hC dX5_record_41 rfl ?_
        refine s_get (b := b) hC hK (hJ.1 σ8) (by decide) o_Model rfl q_w_X5 4 (by decide) q_f_X5_37 rfl dX5_record_42 ?_
        refine s_iconst hC dX5_record_45 ?_
        refine s_isub hC dX5_record_46 ?_
        refine s_ck0 (fun v9 hv9 => ?_)
        refine s_putP (ty := .int) hC hK hJ (fun _ h => h) hσ8 hv9 (by decide) o_Model rfl q_w_X5 tyX5_ok nmX5 4 (by decide) q_f_X5_37 rfl (by decide +kernel) rfl rfl (fun _ => Nat.le_of_ble_eq_true rfl) u_Model_4 dX5_record_47 (fun σ10 hσ10 => ?_)
        exact hj1 σ10 hσ10
      · refine s_lp_IB (J := J) (F := f_X5_record_L11 j7) 11 (fun x11 => [(0, .ref (b + 0)), (1, .ref (b + i1)), (2, vI x11)]) (fun _ _ => rfl) (fun n ih11 x11 σ12 hx11 hσ12 => ?_) fu 0 σ (inR_c _ rfl) hσ
        rw [f_X5_record_L11]
        refine s_iload_n hC dX5_record_11 rfl 2 rfl ?_
        refine s_sipush hC dX5_record_12 (by decide) ?_
        refine s_icmp_ge (tgt := 40) hC dX5_record_15 (by decide) hx11 (inR_c _ rfl) ?_ ?_
        · refine s_sub (L' := [(0, .ref (b + 0)), (1, .ref (b + i1))]) [0, 1] rfl ?_
          exact hj7 σ12 hσ12
        · refine s_aload_n hC dX5_record_18 rfl 0 rfl ?_
          refine s_get (b := b) hC hK (hJ.1 σ12) (by decide) o_Model rfl q_w_X5 3 (by decide) q_f_X5_19 rfl dX5_record_19 ?_
          refine s_iload_n hC dX5_record_22 rfl 2 rfl ?_
          refine s_aload_n hC dX5_record_23 rfl 0 rfl ?_
          refine s_get (b := b) hC hK (hJ.1 σ12) (by decide) o_Model rfl q_w_X5 3 (by decide) q_f_X5_19 rfl dX5_record_24 ?_
          refine s_iload_n hC dX5_record_27 rfl 2 rfl ?_
          refine s_sipush hC dX5_record_28 (by decide) ?_
          refine s_iadd hC dX5_record_31 ?_
          refine s_iaload hC hK (hJ.1 σ12) hσ12 (by decide) a_Model_4 dX5_record_32 (fun v13 hv13 => ?_)
          refine s_iastore hC hK hJ (fun _ h => h) hσ12 hv13 (by decide) a_Model_4 dX5_record_33 (fun σ14 hσ14 => ?_)
          refine s_iincK hC dX5_record_34 2 rfl (by decide) (fun v15 => [(2, vI v15), (0, .ref (b + 0)), (1, .ref (b + i1))]) (fun _ => rfl) (fun v15 hv15 => ?_)
          refine s_goto (tgt := 11) hC dX5_record_37 (by decide) ?_
          refine s_sub (L' := [(0, .ref (b + 0)), (1, .ref (b + i1)), (2, vI v15)]) [1, 2, 0] rfl ?_
          exact ih11 v15 σ14 hv15 hσ14
set_option maxHeartbeats 4000000 in
set_option maxRecDepth 100000 in
theorem m_X5_kindOf {l : Launch} {G : Gt} {I : Heap → Prop} {a1 : Int} (h1 : inR a1) : MetS l yX5_kindOf cX5_kindOf 1 (some .int) { frames := 0, cells := 0, slots := 0, locals := 0 } G [vI a1] I (poP I) (fun _ => False) 0 0 (f_X5_kindOf a1) := by
  refine met_of (by decide) (Nat.le_of_ble_eq_true rfl) ?_
  intro p e s m below meth c hC hKA hr _
  have hK := hKA.1
  unfold f_X5_kindOf
  refine s_sub (L' := [(0, vI a1)]) [0] rfl ?_
  refine s_iload_n hC dX5_kindOf_0 rfl 0 rfl ?_
  refine s_iconst hC dX5_kindOf_1 ?_
  refine s_iand hC dX5_kindOf_2 ?_
  exact s_iret hC hr dX5_kindOf_3 (fun H hH => ⟨rfl, (i32_in _), hH⟩)
set_option maxHeartbeats 4000000 in
set_option maxRecDepth 100000 in
theorem m_X5_rowOf {l : Launch} {G : Gt} {I : Heap → Prop} {a1 : Int} (h1 : inR a1) : MetS l yX5_rowOf cX5_rowOf 1 (some .int) { frames := 0, cells := 0, slots := 0, locals := 0 } G [vI a1] I (poP I) (fun _ => False) 0 0 (f_X5_rowOf a1) := by
  refine met_of (by decide) (Nat.le_of_ble_eq_true rfl) ?_
  intro p e s m below meth c hC hKA hr _
  have hK := hKA.1
  unfold f_X5_rowOf
  refine s_sub (L' := [(0, vI a1)]) [0] rfl ?_
  refine s_iload_n hC dX5_rowOf_0 rfl 0 rfl ?_
  refine s_iconst hC dX5_rowOf_1 ?_
  refine s_ishr hC dX5_rowOf_2 ?_
  refine s_bipush hC dX5_rowOf_3 (by decide) ?_
  refine s_iand hC dX5_rowOf_5 ?_
  exact s_iret hC hr dX5_rowOf_6 (fun H hH => ⟨rfl, (i32_in _), hH⟩)
set_option maxHeartbeats 4000000 in
set_option maxRecDepth 100000 in
theorem m_X5_numberOf {l : Launch} {G : Gt} {I : Heap → Prop} {a1 : Int} (h1 : inR a1) : MetS l yX5_numberOf cX5_numberOf 1 (some .int) { frames := 0, cells := 0, slots := 0, locals := 0 } G [vI a1] I (poP I) (fun _ => False) 0 0 (f_X5_numberOf a1) := by
  refine met_of (by decide) (Nat.le_of_ble_eq_true rfl) ?_
  intro p e s m below meth c hC hKA hr _
  have hK := hKA.1
  unfold f_X5_numberOf
  refine s_sub (L' := [(0, vI a1)]) [0] rfl ?_
  refine s_iload_n hC dX5_numberOf_0 rfl 0 rfl ?_
  refine s_bipush hC dX5_numberOf_1 (by decide) ?_
  refine s_ishr hC dX5_numberOf_3 ?_
  refine s_bipush hC dX5_numberOf_4 (by decide) ?_
  refine s_iand hC dX5_numberOf_6 ?_
  exact s_iret hC hr dX5_numberOf_7 (fun H hH => ⟨rfl, (i32_in _), hH⟩)
set_option maxHeartbeats 4000000 in
set_option maxRecDepth 100000 in
theorem m_X5_lettersOf {l : Launch} {G : Gt} {I : Heap → Prop} {a1 : Int} (h1 : inR a1) : MetS l yX5_lettersOf cX5_lettersOf 1 (some .int) { frames := 0, cells := 0, slots := 0, locals := 0 } G [vI a1] I (poP I) (fun _ => False) 0 0 (f_X5_lettersOf a1) := by
  refine met_of (by decide) (Nat.le_of_ble_eq_true rfl) ?_
  intro p e s m below meth c hC hKA hr _
  have hK := hKA.1
  unfold f_X5_lettersOf
  refine s_sub (L' := [(0, vI a1)]) [0] rfl ?_
  refine s_iload_n hC dX5_lettersOf_0 rfl 0 rfl ?_
  refine s_bipush hC dX5_lettersOf_1 (by decide) ?_
  refine s_ishr hC dX5_lettersOf_3 ?_
  exact s_iret hC hr dX5_lettersOf_4 (fun H hH => ⟨rfl, (i32_in _), hH⟩)
set_option maxHeartbeats 4000000 in
set_option maxRecDepth 100000 in
theorem m_X5_thing {l : Launch} {G : Gt} {I : Heap → Prop} {a1 : Int} (h1 : inR a1) {a2 : Int} (h2 : inR a2) {a3 : Int} (h3 : inR a3) {a4 : Int} (h4 : inR a4) : MetS l yX5_thing cX5_thing 4 (some .int) { frames := 0, cells := 0, slots := 0, locals := 0 } G [vI a1, vI a2, vI a3, vI a4] I (poP I) (fun _ => False) 0 0 (f_X5_thing a1 a2 a3 a4) := by
  refine met_of (by decide) (Nat.le_of_ble_eq_true rfl) ?_
  intro p e s m below meth c hC hKA hr _
  have hK := hKA.1
  unfold f_X5_thing
  refine s_sub (L' := [(0, vI a1), (1, vI a2), (2, vI a3), (3, vI a4)]) [0, 1, 2, 3] rfl ?_
  refine s_iload_n hC dX5_thing_0 rfl 0 rfl ?_
  refine s_iconst hC dX5_thing_1 ?_
  refine s_iload_n hC dX5_thing_2 rfl 1 rfl ?_
  refine s_imul hC dX5_thing_3 ?_
  refine s_iadd hC dX5_thing_4 ?_
  refine s_sipush hC dX5_thing_5 (by decide) ?_
  refine s_iload_n hC dX5_thing_8 rfl 2 rfl ?_
  refine s_imul hC dX5_thing_9 ?_
  refine s_iadd hC dX5_thing_10 ?_
  refine s_sipush hC dX5_thing_11 (by decide) ?_
  refine s_iload_n hC dX5_thing_14 rfl 3 rfl ?_
  refine s_imul hC dX5_thing_15 ?_
  refine s_iadd hC dX5_thing_16 ?_
  refine s_ck0 (fun v1 hv1 => ?_)
  exact s_iret hC hr dX5_thing_17 (fun H hH => ⟨rfl, hv1, hH⟩)
set_option maxHeartbeats 4000000 in
set_option maxRecDepth 100000 in
theorem m_X5_cellsOf {l : Launch} {G : Gt} {I : Heap → Prop} {a1 : Int} (h1 : inR a1) : MetS l yX5_cellsOf cX5_cellsOf 1 (some .int) { frames := 1, cells := 0, slots := 0, locals := 20 } G [vI a1] I (poP I) (fun _ => False) 0 0 (f_X5_cellsOf a1) := by
  refine met_of (by decide) (Nat.le_of_ble_eq_true rfl) ?_
  intro p e s m below meth c hC hKA hr _
  have hK := hKA.1
  unfold f_X5_cellsOf
  refine s_sub (L' := [(0, vI a1)]) [0] rfl ?_
  refine s_iload_n hC dX5_cellsOf_0 rfl 0 rfl ?_
  refine s_callS_P (As := [vI a1]) (rest := []) hC hKA 1 (m_X5_kindOf (I := I) h1) rfl (cb_of hC 1 q_c_yX5_kindOf q_i_X5 q_m_X5_45 rfl rfl dd_yX5_kindOf ⟨Nat.le_of_ble_eq_true rfl, Nat.le_of_ble_eq_true rfl⟩) q_s_yX5_kindOf rfl (Nat.le_of_ble_eq_true rfl) dX5_cellsOf_1 ⟨Nat.zero_le _, Nat.zero_le _⟩ (fun r1 hr1 => ?_)
  refine s_ite (fun hz => ?_) (fun hz0 => ?_)
  · refine s_tabIn (tgt := 32) hC 1 dX5_cellsOf_4 hr1 hz (by decide) (by decide) rfl (by decide) ?_
    refine s_iconst hC dX5_cellsOf_32 ?_
    refine s_iload_n hC dX5_cellsOf_33 rfl 0 rfl ?_
    refine s_callS_P (As := [vI a1]) (rest := [vI 2]) hC hKA 1 (m_X5_lettersOf (I := I) h1) rfl (cb_of hC 1 q_c_yX5_lettersOf q_i_X5 q_m_X5_49 rfl rfl dd_yX5_lettersOf ⟨Nat.le_of_ble_eq_true rfl, Nat.le_of_ble_eq_true rfl⟩) q_s_yX5_lettersOf rfl (Nat.le_of_ble_eq_true rfl) dX5_cellsOf_34 ⟨Nat.zero_le _, Nat.zero_le _⟩ (fun r2 hr2 => ?_)
    refine s_iadd hC dX5_cellsOf_37 ?_
    refine s_ck0 (fun v3 hv3 => ?_)
    exact s_iret hC hr dX5_cellsOf_38 (fun H hH => ⟨rfl, hv3, hH⟩)
  · refine s_ite (fun hz => ?_) (fun hz1 => ?_)
    · refine s_tabIn (tgt := 39) hC 2 dX5_cellsOf_4 hr1 hz (by decide) (by decide) rfl (by decide) ?_
      refine s_iconst hC dX5_cellsOf_39 ?_
      refine s_iload_n hC dX5_cellsOf_40 rfl 0 rfl ?_
      refine s_callS_P (As := [vI a1]) (rest := [vI 1]) hC hKA 1 (m_X5_lettersOf (I := I) h1) rfl (cb_of hC 1 q_c_yX5_lettersOf q_i_X5 q_m_X5_49 rfl rfl dd_yX5_lettersOf ⟨Nat.le_of_ble_eq_true rfl, Nat.le_of_ble_eq_true rfl⟩) q_s_yX5_lettersOf rfl (Nat.le_of_ble_eq_true rfl) dX5_cellsOf_41 ⟨Nat.zero_le _, Nat.zero_le _⟩ (fun r4 hr4 => ?_)
      refine s_iadd hC dX5_cellsOf_44 ?_
      refine s_ck0 (fun v5 hv5 => ?_)
      exact s_iret hC hr dX5_cellsOf_45 (fun H hH => ⟨rfl, hv5, hH⟩)
    · refine s_ite (fun hz => ?_) (fun hz2 => ?_)
      · refine s_tabIn (tgt := 46) hC 3 dX5_cellsOf_4 hr1 hz (by decide) (by decide) rfl (by decide) ?_
        refine s_sub (L' := []) [] rfl ?_
        refine s_iconst hC dX5_cellsOf_46 ?_
        exact s_iret hC hr dX5_cellsOf_47 (fun H hH => ⟨rfl, (inR_c _ rfl), hH⟩)
      · refine s_tabOut (tgt := 48) hC dX5_cellsOf_4 hr1 (by omega) (by decide) ?_
        refine s_sub (L' := []) [] rfl ?_
        refine s_iconst hC dX5_cellsOf_48 ?_
        exact s_iret hC hr dX5_cellsOf_49 (fun H hH => ⟨rfl, (inR_c _ rfl), hH⟩)
set_option maxHeartbeats 4000000 in
set_option maxRecDepth 100000 in
theorem m_X5_freeOf {l : Launch} {G : Gt} {b : Nat} {σ : Blk} {I : Heap → Prop} (hI : ∀ H, I H → Bk G (layModel G b) 10 b σ H) (hσ : Rg σ) {a1 : Int} (h1 : inR a1) : MetS l yX5_freeOf cX5_freeOf 4 (some .int) { frames := 2, cells := 0, slots := 0, locals := 40 } G [.ref (b + 0), vI a1] I (poP I) (fun _ => False) 0 0 (f_X5_freeOf σ a1) := by
  refine met_of (by decide) (Nat.le_of_ble_eq_true rfl) ?_
  intro p e s m below meth c hC hKA hr _
  have hK := hKA.1
  unfold f_X5_freeOf
  refine s_sub (L' := [(0, .ref (b + 0)), (1, vI a1)]) [0, 1] rfl ?_
  refine s_bipush hC dX5_freeOf_0 (by decide) ?_
  refine s_istore_n (L' := [(2, vI 40), (0, .ref (b + 0)), (1, vI a1)]) hC dX5_freeOf_2 rfl (by decide) rfl ?_
  refine s_iconst hC dX5_freeOf_3 ?_
  refine s_istore_n (L' := [(3, vI 0), (2, vI 40), (0, .ref (b + 0)), (1, vI a1)]) hC dX5_freeOf_4 rfl (by decide) rfl ?_
  refine s_sub (L' := [(0, .ref (b + 0)), (1, vI a1), (2, vI 40), (3, vI 0)]) [2, 3, 1, 0] rfl ?_
  refine s_lp_II (F := f_X5_freeOf_L5 σ a1) 5 (fun x1 x2 => [(0, .ref (b + 0)), (1, vI a1), (2, vI x1), (3, vI x2)]) (fun _ _ => rfl) (fun n ih5 x1 x2 hx1 hx2 => ?_) fu 40 0 (inR_c _ rfl) (inR_c _ rfl)
  rw [f_X5_freeOf_L5]
  refine s_iload_n hC dX5_freeOf_5 rfl 3 rfl ?_
  refine s_bipush hC dX5_freeOf_6 (by decide) ?_
  refine s_icmp_ge (tgt := 38) hC dX5_freeOf_8 (by decide) hx2 (inR_c _ rfl) ?_ ?_
  · refine s_sub (L' := [(2, vI x1)]) [2] rfl ?_
    refine s_iload_n hC dX5_freeOf_38 rfl 0 rfl ?_
    exact s_iret hC hr dX5_freeOf_39 (fun H hH => ⟨rfl, hx1, hH⟩)
  · refine s_iload_n hC dX5_freeOf_11 rfl 2 rfl ?_
    refine s_aload_n hC dX5_freeOf_12 rfl 0 rfl ?_
    refine s_get (b := b) hC hK hI (by decide) o_Model rfl q_w_X5 0 (by decide) q_f_X5_7 rfl dX5_freeOf_13 ?_
    refine s_sipush hC dX5_freeOf_16 (by decide) ?_
    refine s_bipush hC dX5_freeOf_19 (by decide) ?_
    refine s_iload_n hC dX5_freeOf_21 rfl 1 rfl ?_
    refine s_imul hC dX5_freeOf_22 ?_
    refine s_iadd hC dX5_freeOf_23 ?_
    refine s_iload_n hC dX5_freeOf_24 rfl 3 rfl ?_
    refine s_iadd hC dX5_freeOf_25 ?_
    refine s_iaload hC hK hI hσ (by decide) a_Model_1 dX5_freeOf_26 (fun v3 hv3 => ?_)
    refine s_callS_P (As := [vI v3]) (rest := [vI x1]) hC hKA 1 (m_X5_cellsOf (I := I) hv3) rfl (cb_of hC 1 q_c_yX5_cellsOf q_i_X5 q_m_X5_52 rfl rfl dd_yX5_cellsOf ⟨Nat.le_of_ble_eq_true rfl, Nat.le_of_ble_eq_true rfl⟩) q_s_yX5_cellsOf rfl (Nat.le_of_ble_eq_true rfl) dX5_freeOf_27 ⟨Nat.zero_le _, Nat.zero_le _⟩ (fun r4 hr4 => ?_)
    refine s_isub hC dX5_freeOf_30 ?_
    refine s_ck0 (fun v5 hv5 => ?_)
    refine s_istore_n (L' := [(2, vI v5), (0, .ref (b + 0)), (1, vI a1), (3, vI x2)]) hC dX5_freeOf_31 rfl (by decide) rfl ?_
    refine s_iincK hC dX5_freeOf_32 3 rfl (by decide) (fun v6 => [(3, vI v6), (2, vI v5), (0, .ref (b + 0)), (1, vI a1)]) (fun _ => rfl) (fun v6 hv6 => ?_)
    refine s_goto (tgt := 5) hC dX5_freeOf_35 (by decide) ?_
    refine s_sub (L' := [(0, .ref (b + 0)), (1, vI a1), (2, vI v5), (3, vI v6)]) [2, 3, 1, 0] rfl ?_
    exact ih5 v5 v6 hv5 hv6
set_option maxHeartbeats 4000000 in
set_option maxRecDepth 100000 in
theorem m_X5_slotsOf {l : Launch} {G : Gt} {b : Nat} {σ : Blk} {I : Heap → Prop} (hI : ∀ H, I H → Bk G (layModel G b) 10 b σ H) (hσ : Rg σ) {a1 : Int} (h1 : inR a1) : MetS l yX5_slotsOf cX5_slotsOf 4 (some .int) { frames := 0, cells := 0, slots := 0, locals := 0 } G [.ref (b + 0), vI a1] I (poP I) (fun _ => False) 0 0 (f_X5_slotsOf σ a1) := by
  refine met_of (by decide) (Nat.le_of_ble_eq_true rfl) ?_
  intro p e s m below meth c hC hKA hr _
  have hK := hKA.1
  unfold f_X5_slotsOf
  refine s_sub (L' := [(0, .ref (b + 0)), (1, vI a1)]) [0, 1] rfl ?_
  refine s_iconst hC dX5_slotsOf_0 ?_
  refine s_istore_n (L' := [(2, vI 0), (0, .ref (b + 0)), (1, vI a1)]) hC dX5_slotsOf_1 rfl (by decide) rfl ?_
  refine s_iconst hC dX5_slotsOf_2 ?_
  refine s_istore_n (L' := [(3, vI 0), (2, vI 0), (0, .ref (b + 0)), (1, vI a1)]) hC dX5_slotsOf_3 rfl (by decide) rfl ?_
  refine s_sub (L' := [(0, .ref (b + 0)), (1, vI a1), (2, vI 0), (3, vI 0)]) [2, 3, 1, 0] rfl ?_
  refine s_lp_II (F := f_X5_slotsOf_L4 σ a1) 4 (fun x1 x2 => [(0, .ref (b + 0)), (1, vI a1), (2, vI x1), (3, vI x2)]) (fun _ _ => rfl) (fun n ih4 x1 x2 hx1 hx2 => ?_) fu 0 0 (inR_c _ rfl) (inR_c _ rfl)
  rw [f_X5_slotsOf_L4]
  refine s_iload_n hC dX5_slotsOf_4 rfl 3 rfl ?_
  refine s_bipush hC dX5_slotsOf_5 (by decide) ?_
  refine s_icmp_ge (tgt := 42) hC dX5_slotsOf_7 (by decide) hx2 (inR_c _ rfl) ?_ ?_
  · refine s_sub (L' := [(2, vI x1)]) [2] rfl ?_
    refine s_iload_n hC dX5_slotsOf_42 rfl 0 rfl ?_
    exact s_iret hC hr dX5_slotsOf_43 (fun H hH => ⟨rfl, hx1, hH⟩)
  · refine s_aload_n hC dX5_slotsOf_10 rfl 0 rfl ?_
    refine s_get (b := b) hC hK hI (by decide) o_Model rfl q_w_X5 0 (by decide) q_f_X5_7 rfl dX5_slotsOf_11 ?_
    refine s_sipush hC dX5_slotsOf_14 (by decide) ?_
    refine s_bipush hC dX5_slotsOf_17 (by decide) ?_
    refine s_iload_n hC dX5_slotsOf_19 rfl 1 rfl ?_
    refine s_imul hC dX5_slotsOf_20 ?_
    refine s_iadd hC dX5_slotsOf_21 ?_
    refine s_iload_n hC dX5_slotsOf_22 rfl 3 rfl ?_
    refine s_iadd hC dX5_slotsOf_23 ?_
    refine s_iaload hC hK hI hσ (by decide) a_Model_1 dX5_slotsOf_24 (fun v3 hv3 => ?_)
    refine s_jp_I 35 (fun x5 => [(0, .ref (b + 0)), (1, vI a1), (3, vI x2)]) (fun x5 => [vI x5]) (fun x5 hx5 => ?_) (fun j4 hj4 => ?_)
    · refine s_istore_n (L' := [(2, vI x5), (0, .ref (b + 0)), (1, vI a1), (3, vI x2)]) hC dX5_slotsOf_35 rfl (by decide) rfl ?_
      refine s_iincK hC dX5_slotsOf_36 3 rfl (by decide) (fun v6 => [(3, vI v6), (2, vI x5), (0, .ref (b + 0)), (1, vI a1)]) (fun _ => rfl) (fun v6 hv6 => ?_)
      refine s_goto (tgt := 4) hC dX5_slotsOf_39 (by decide) ?_
      refine s_sub (L' := [(0, .ref (b + 0)), (1, vI a1), (2, vI x5), (3, vI v6)]) [2, 3, 1, 0] rfl ?_
      exact ih4 x5 v6 hx5 hv6
    · refine s_if_eq (tgt := 34) hC dX5_slotsOf_25 (by decide) hv3 ?_ ?_
      · refine s_iload_n hC dX5_slotsOf_34 rfl 2 rfl ?_
        refine s_sub (L' := [(0, .ref (b + 0)), (1, vI a1), (3, vI x2)]) [0, 1, 3] rfl ?_
        exact hj4 x1 hx1
      · refine s_sub (L' := [(0, .ref (b + 0)), (1, vI a1), (3, vI x2)]) [0, 1, 3] rfl ?_
        refine s_iload_n hC dX5_slotsOf_28 rfl 2 rfl ?_
        refine s_iconst hC dX5_slotsOf_29 ?_
        refine s_iadd hC dX5_slotsOf_30 ?_
        refine s_goto (tgt := 35) hC dX5_slotsOf_31 (by decide) ?_
        refine s_ck0 (fun v7 hv7 => ?_)
        exact hj4 v7 hv7
set_option maxHeartbeats 4000000 in
set_option maxRecDepth 100000 in
theorem m_X5_thingsOn {l : Launch} {G : Gt} {b : Nat} {σ : Blk} {I : Heap → Prop} (hI : ∀ H, I H → Bk G (layModel G b) 10 b σ H) (hσ : Rg σ) {a1 : Int} (h1 : inR a1) {a2 : Int} (h2 : inR a2) : MetS l yX5_thingsOn cX5_thingsOn 6 (some .int) { frames := 1, cells := 0, slots := 0, locals := 20 } G [.ref (b + 0), vI a1, vI a2] I (poP I) (fun _ => False) 0 0 (f_X5_thingsOn σ a1 a2) := by
  refine met_of (by decide) (Nat.le_of_ble_eq_true rfl) ?_
  intro p e s m below meth c hC hKA hr _
  have hK := hKA.1
  unfold f_X5_thingsOn
  refine s_sub (L' := [(0, .ref (b + 0)), (1, vI a1), (2, vI a2)]) [0, 1, 2] rfl ?_
  refine s_iconst hC dX5_thingsOn_0 ?_
  refine s_istore_n (L' := [(3, vI 0), (0, .ref (b + 0)), (1, vI a1), (2, vI a2)]) hC dX5_thingsOn_1 rfl (by decide) rfl ?_
  refine s_iconst hC dX5_thingsOn_2 ?_
  refine s_istore (L' := [(4, vI 0), (3, vI 0), (0, .ref (b + 0)), (1, vI a1), (2, vI a2)]) hC dX5_thingsOn_3 (by decide) rfl ?_
  refine s_sub (L' := [(0, .ref (b + 0)), (1, vI a1), (2, vI a2), (3, vI 0), (4, vI 0)]) [2, 3, 4, 1, 0] rfl ?_
  refine s_lp_II (F := f_X5_thingsOn_L5 σ a1 a2) 5 (fun x1 x2 => [(0, .ref (b + 0)), (1, vI a1), (2, vI a2), (3, vI x1), (4, vI x2)]) (fun _ _ => rfl) (fun n ih5 x1 x2 hx1 hx2 => ?_) fu 0 0 (inR_c _ rfl) (inR_c _ rfl)
  rw [f_X5_thingsOn_L5]
  refine s_iload hC dX5_thingsOn_5 4 rfl ?_
  refine s_bipush hC dX5_thingsOn_7 (by decide) ?_
  refine s_icmp_ge (tgt := 62) hC dX5_thingsOn_9 (by decide) hx2 (inR_c _ rfl) ?_ ?_
  · refine s_sub (L' := [(3, vI x1)]) [3] rfl ?_
    refine s_iload_n hC dX5_thingsOn_62 rfl 0 rfl ?_
    exact s_iret hC hr dX5_thingsOn_63 (fun H hH => ⟨rfl, hx1, hH⟩)
  · refine s_aload_n hC dX5_thingsOn_12 rfl 0 rfl ?_
    refine s_get (b := b) hC hK hI (by decide) o_Model rfl q_w_X5 0 (by decide) q_f_X5_7 rfl dX5_thingsOn_13 ?_
    refine s_sipush hC dX5_thingsOn_16 (by decide) ?_
    refine s_bipush hC dX5_thingsOn_19 (by decide) ?_
    refine s_iload_n hC dX5_thingsOn_21 rfl 1 rfl ?_
    refine s_imul hC dX5_thingsOn_22 ?_
    refine s_iadd hC dX5_thingsOn_23 ?_
    refine s_iload hC dX5_thingsOn_24 4 rfl ?_
    refine s_iadd hC dX5_thingsOn_26 ?_
    refine s_iaload hC hK hI hσ (by decide) a_Model_1 dX5_thingsOn_27 (fun v3 hv3 => ?_)
    refine s_istore (L' := [(5, vI v3), (0, .ref (b + 0)), (1, vI a1), (2, vI a2), (3, vI x1), (4, vI x2)]) hC dX5_thingsOn_28 (by decide) rfl ?_
    refine s_iload_n hC dX5_thingsOn_30 rfl 4 rfl ?_
    refine s_iload hC dX5_thingsOn_31 0 rfl ?_
    refine s_jp_I 54 (fun x5 => [(0, .ref (b + 0)), (1, vI a1), (2, vI a2), (4, vI x2)]) (fun x5 => [vI x5, vI x1]) (fun x5 hx5 => ?_) (fun j4 hj4 => ?_)
    · refine s_iadd hC dX5_thingsOn_54 ?_
      refine s_ck0 (fun v6 hv6 => ?_)
      refine s_istore_n (L' := [(3, vI v6), (0, .ref (b + 0)), (1, vI a1), (2, vI a2), (4, vI x2)]) hC dX5_thingsOn_55 rfl (by decide) rfl ?_
      refine s_iincK hC dX5_thingsOn_56 4 rfl (by decide) (fun v7 => [(4, vI v7), (3, vI v6), (0, .ref (b + 0)), (1, vI a1), (2, vI a2)]) (fun _ => rfl) (fun v7 hv7 => ?_)
      refine s_goto (tgt := 5) hC dX5_thingsOn_59 (by decide) ?_
      refine s_sub (L' := [(0, .ref (b + 0)), (1, vI a1), (2, vI a2), (3, vI v6), (4, vI v7)]) [2, 3, 4, 1, 0] rfl ?_
      exact ih5 v6 v7 hv6 hv7
    · refine s_if_eq (tgt := 53) hC dX5_thingsOn_33 (by decide) hv3 ?_ ?_
      · refine s_sub (L' := [(0, .ref (b + 0)), (1, vI a1), (2, vI a2), (4, vI x2)]) [1, 2, 3, 5] rfl ?_
        refine s_iconst hC dX5_thingsOn_53 ?_
        exact hj4 0 (inR_c _ rfl)
      · refine s_sub (L' := [(0, .ref (b + 0)), (1, vI a1), (2, vI a2), (4, vI x2), (5, vI v3)]) [1, 2, 3, 5, 0] rfl ?_
        refine s_iload_n hC dX5_thingsOn_36 rfl 2 rfl ?_
        refine s_if_eq (tgt := 49) hC dX5_thingsOn_37 (by decide) h2 ?_ ?_
        · refine s_sub (L' := [(0, .ref (b + 0)), (1, vI a1), (2, vI a2), (4, vI x2)]) [0, 1, 2, 3] rfl ?_
          refine s_iconst hC dX5_thingsOn_49 ?_
          refine s_goto (tgt := 54) hC dX5_thingsOn_50 (by decide) ?_
          exact hj4 1 (inR_c _ rfl)
        · refine s_iload hC dX5_thingsOn_40 4 rfl ?_
          refine s_callS_P (As := [vI v3]) (rest := [vI x1]) hC hKA 1 (m_X5_kindOf (I := I) hv3) rfl (cb_of hC 1 q_c_yX5_kindOf q_i_X5 q_m_X5_45 rfl rfl dd_yX5_kindOf ⟨Nat.le_of_ble_eq_true rfl, Nat.le_of_ble_eq_true rfl⟩) q_s_yX5_kindOf rfl (Nat.le_of_ble_eq_true rfl) dX5_thingsOn_42 ⟨Nat.zero_le _, Nat.zero_le _⟩ (fun r8 hr8 => ?_)
          refine s_iload_n hC dX5_thingsOn_45 rfl 2 rfl ?_
          refine s_icmp_ne (tgt := 53) hC dX5_thingsOn_46 (by decide) hr8 h2 ?_ ?_
          · refine s_sub (L' := [(0, .ref (b + 0)), (1, vI a1), (2, vI a2), (4, vI x2)]) [0, 1, 2, 3] rfl ?_
            refine s_iconst hC dX5_thingsOn_53 ?_
            exact hj4 0 (inR_c _ rfl)
          · refine s_sub (L' := [(0, .ref (b + 0)), (1, vI a1), (2, vI a2), (4, vI x2)]) [0, 1, 2, 3] rfl ?_
            refine s_iconst hC dX5_thingsOn_49 ?_
            refine s_goto (tgt := 54) hC dX5_thingsOn_50 (by decide) ?_
            exact hj4 1 (inR_c _ rfl)
set_option maxHeartbeats 4000000 in
set_option maxRecDepth 100000 in
theorem m_X5_lowestEmpty {l : Launch} {G : Gt} {b : Nat} {σ : Blk} {I : Heap → Prop} (hI : ∀ H, I H → Bk G (layModel G b) 10 b σ H) (hσ : Rg σ) {a1 : Int} (h1 : inR a1) : MetS l yX5_lowestEmpty cX5_lowestEmpty 4 (some .int) { frames := 0, cells := 0, slots := 0, locals := 0 } G [.ref (b + 0), vI a1] I (poP I) (fun _ => False) 0 0 (f_X5_lowestEmpty σ a1) := by
  refine met_of (by decide) (Nat.le_of_ble_eq_true rfl) ?_
  intro p e s m below meth c hC hKA hr _
  have hK := hKA.1
  unfold f_X5_lowestEmpty
  refine s_sub (L' := [(0, .ref (b + 0)), (1, vI a1)]) [0, 1] rfl ?_
  refine s_bipush hC dX5_lowestEmpty_0 (by decide) ?_
  refine s_istore_n (L' := [(2, vI ((-6))), (0, .ref (b + 0)), (1, vI a1)]) hC dX5_lowestEmpty_2 rfl (by decide) rfl ?_
  refine s_bipush hC dX5_lowestEmpty_3 (by decide) ?_
  refine s_istore_n (L' := [(3, vI 39), (2, vI ((-6))), (0, .ref (b + 0)), (1, vI a1)]) hC dX5_lowestEmpty_5 rfl (by decide) rfl ?_
  refine s_sub (L' := [(0, .ref (b + 0)), (1, vI a1), (2, vI ((-6))), (3, vI 39)]) [2, 3, 1, 0] rfl ?_
  refine s_lp_II (F := f_X5_lowestEmpty_L6 σ a1) 6 (fun x1 x2 => [(0, .ref (b + 0)), (1, vI a1), (2, vI x1), (3, vI x2)]) (fun _ _ => rfl) (fun n ih6 x1 x2 hx1 hx2 => ?_) fu ((-6)) 39 (inR_c _ rfl) (inR_c _ rfl)
  rw [f_X5_lowestEmpty_L6]
  refine s_iload_n hC dX5_lowestEmpty_6 rfl 3 rfl ?_
  refine s_if_lt (tgt := 40) hC dX5_lowestEmpty_7 (by decide) hx2 ?_ ?_
  · refine s_sub (L' := [(2, vI x1)]) [2] rfl ?_
    refine s_iload_n hC dX5_lowestEmpty_40 rfl 0 rfl ?_
    exact s_iret hC hr dX5_lowestEmpty_41 (fun H hH => ⟨rfl, hx1, hH⟩)
  · refine s_aload_n hC dX5_lowestEmpty_10 rfl 0 rfl ?_
    refine s_get (b := b) hC hK hI (by decide) o_Model rfl q_w_X5 0 (by decide) q_f_X5_7 rfl dX5_lowestEmpty_11 ?_
    refine s_sipush hC dX5_lowestEmpty_14 (by decide) ?_
    refine s_bipush hC dX5_lowestEmpty_17 (by decide) ?_
    refine s_iload_n hC dX5_lowestEmpty_19 rfl 1 rfl ?_
    refine s_imul hC dX5_lowestEmpty_20 ?_
    refine s_iadd hC dX5_lowestEmpty_21 ?_
    refine s_iload_n hC dX5_lowestEmpty_22 rfl 3 rfl ?_
    refine s_iadd hC dX5_lowestEmpty_23 ?_
    refine s_iaload hC hK hI hσ (by decide) a_Model_1 dX5_lowestEmpty_24 (fun v3 hv3 => ?_)
    refine s_jp_I 33 (fun x5 => [(0, .ref (b + 0)), (1, vI a1), (3, vI x2)]) (fun x5 => [vI x5]) (fun x5 hx5 => ?_) (fun j4 hj4 => ?_)
    · refine s_istore_n (L' := [(2, vI x5), (0, .ref (b + 0)), (1, vI a1), (3, vI x2)]) hC dX5_lowestEmpty_33 rfl (by decide) rfl ?_
      refine s_iincK hC dX5_lowestEmpty_34 3 rfl (by decide) (fun v6 => [(3, vI v6), (2, vI x5), (0, .ref (b + 0)), (1, vI a1)]) (fun _ => rfl) (fun v6 hv6 => ?_)
      refine s_goto (tgt := 6) hC dX5_lowestEmpty_37 (by decide) ?_
      refine s_sub (L' := [(0, .ref (b + 0)), (1, vI a1), (2, vI x5), (3, vI v6)]) [2, 3, 1, 0] rfl ?_
      exact ih6 x5 v6 hx5 hv6
    · refine s_if_ne (tgt := 32) hC dX5_lowestEmpty_25 (by decide) hv3 ?_ ?_
      · refine s_iload_n hC dX5_lowestEmpty_32 rfl 2 rfl ?_
        refine s_sub (L' := [(0, .ref (b + 0)), (1, vI a1), (3, vI x2)]) [0, 1, 3] rfl ?_
        exact hj4 x1 hx1
      · refine s_sub (L' := [(0, .ref (b + 0)), (1, vI a1), (3, vI x2)]) [0, 1, 3] rfl ?_
        refine s_iload_n hC dX5_lowestEmpty_28 rfl 2 rfl ?_
        refine s_goto (tgt := 33) hC dX5_lowestEmpty_29 (by decide) ?_
        exact hj4 x2 hx2
set_option maxHeartbeats 4000000 in
set_option maxRecDepth 100000 in
theorem m_X5_placed {l : Launch} {G : Gt} {b : Nat} {σ : Blk} {J : Blk → Heap → Prop} (hJ : Wd G (layModel G b) 10 b J) (hσ : Rg σ) {a1 : Int} (h1 : inR a1) : MetS l yX5_placed cX5_placed 4 (some .int) { frames := 3, cells := 0, slots := 0, locals := 63 } G [.ref (b + 0), vI a1] (J σ) (poW J) (Ab b 10) 0 0 (f_X5_placed σ a1) := by
  refine met_of (by decide) (Nat.le_of_ble_eq_true rfl) ?_
  intro p e s m below meth c hC hKA hr _
  have hK := hKA.1
  unfold f_X5_placed
  refine s_sub (L' := [(0, .ref (b + 0)), (1, vI a1)]) [0, 1] rfl ?_
  refine s_iconst hC dX5_placed_0 ?_
  refine s_istore_n (L' := [(2, vI 0), (0, .ref (b + 0)), (1, vI a1)]) hC dX5_placed_1 rfl (by decide) rfl ?_
  refine s_sub (L' := [(0, .ref (b + 0)), (1, vI a1), (2, vI 0)]) [1, 2, 0] rfl ?_
  refine s_lp_I (F := f_X5_placed_L2 σ a1) 2 (fun x1 => [(0, .ref (b + 0)), (1, vI a1), (2, vI x1)]) (fun _ => rfl) (fun n ih2 x1 hx1 => ?_) fu 0 (inR_c _ rfl)
  rw [f_X5_placed_L2]
  refine s_iload_n hC dX5_placed_2 rfl 2 rfl ?_
  refine s_bipush hC dX5_placed_3 (by decide) ?_
  refine s_icmp_ge (tgt := 50) hC dX5_placed_5 (by decide) hx1 (inR_c _ rfl) ?_ ?_
  · refine s_sub (L' := []) [] rfl ?_
    refine s_bipush hC dX5_placed_50 (by decide) ?_
    exact s_iret hC hr dX5_placed_52 (fun H hH => ⟨rfl, (inR_c _ rfl), hσ, hH⟩)
  · refine s_aload_n hC dX5_placed_8 rfl 0 rfl ?_
    refine s_iload_n hC dX5_placed_9 rfl 2 rfl ?_
    refine s_callV_P (As := [vI x1]) (rest := []) (a := b + 0) hC hKA 1 (m_X5_freeOf (hJ.1 σ) hσ hx1) rfl (cb_of hC 1 q_c_yX5_freeOf q_i_X5 q_m_X5_55 rfl rfl dd_yX5_freeOf ⟨Nat.le_of_ble_eq_true rfl, Nat.le_of_ble_eq_true rfl⟩) q_i_yX5_freeOf q_x_yX5_freeOf (s_recv hK (hJ.1 σ) (by decide) o_Model rfl) rfl (Nat.le_of_ble_eq_true rfl) dX5_placed_10 ⟨Nat.zero_le _, Nat.zero_le _⟩ (fun r2 hr2 => ?_)
    refine s_iload_n hC dX5_placed_13 rfl 1 rfl ?_
    refine s_callS_P (As := [vI a1]) (rest := [vI r2]) hC hKA 1 (m_X5_cellsOf (I := J σ) h1) rfl (cb_of hC 1 q_c_yX5_cellsOf q_i_X5 q_m_X5_52 rfl rfl dd_yX5_cellsOf ⟨Nat.le_of_ble_eq_true rfl, Nat.le_of_ble_eq_true rfl⟩) q_s_yX5_cellsOf rfl (Nat.le_of_ble_eq_true rfl) dX5_placed_14 ⟨Nat.zero_le _, Nat.zero_le _⟩ (fun r3 hr3 => ?_)
    refine s_icmp_lt (tgt := 44) hC dX5_placed_17 (by decide) hr2 hr3 ?_ ?_
    · refine s_iincK hC dX5_placed_44 2 rfl (by decide) (fun v4 => [(2, vI v4), (0, .ref (b + 0)), (1, vI a1)]) (fun _ => rfl) (fun v4 hv4 => ?_)
      refine s_goto (tgt := 2) hC dX5_placed_47 (by decide) ?_
      refine s_sub (L' := [(0, .ref (b + 0)), (1, vI a1), (2, vI v4)]) [1, 2, 0] rfl ?_
      exact ih2 v4 hv4
    · refine s_bipush hC dX5_placed_20 (by decide) ?_
      refine s_iload_n hC dX5_placed_22 rfl 2 rfl ?_
      refine s_imul hC dX5_placed_23 ?_
      refine s_aload_n hC dX5_placed_24 rfl 0 rfl ?_
      refine s_iload_n hC dX5_placed_25 rfl 2 rfl ?_
      refine s_callV_P (As := [vI x1]) (rest := [vI (40 * x1)]) (a := b + 0) hC hKA 1 (m_X5_lowestEmpty (hJ.1 σ) hσ hx1) rfl (cb_of hC 1 q_c_yX5_lowestEmpty q_i_X5 q_m_X5_58 rfl rfl dd_yX5_lowestEmpty ⟨Nat.le_of_ble_eq_true rfl, Nat.le_of_ble_eq_true rfl⟩) q_i_yX5_lowestEmpty q_x_yX5_lowestEmpty (s_recv hK (hJ.1 σ) (by decide) o_Model rfl) rfl (Nat.le_of_ble_eq_true rfl) dX5_placed_26 ⟨Nat.zero_le _, Nat.zero_le _⟩ (fun r5 hr5 => ?_)
      refine s_iadd hC dX5_placed_29 ?_
      refine s_ck0 (fun v6 hv6 => ?_)
      refine s_istore_n (L' := [(3, vI v6), (0, .ref (b + 0)), (1, vI a1), (2, vI x1)]) hC dX5_placed_30 rfl (by decide) rfl ?_
      refine s_aload_n hC dX5_placed_31 rfl 1 rfl ?_
      refine s_get (b := b) hC hK (hJ.1 σ) (by decide) o_Model rfl q_w_X5 0 (by decide) q_f_X5_7 rfl dX5_placed_32 ?_
      refine s_sipush hC dX5_placed_35 (by decide) ?_
      refine s_iload_n hC dX5_placed_38 rfl 0 rfl ?_
      refine s_iadd hC dX5_placed_39 ?_
      refine s_iload_n hC dX5_placed_40 rfl 2 rfl ?_
      refine s_iastore hC hK hJ (fun _ h => h) hσ h1 (by decide) a_Model_1 dX5_placed_41 (fun σ7 hσ7 => ?_)
      refine s_iload_n hC dX5_placed_42 rfl 0 rfl ?_
      exact s_iret hC hr dX5_placed_43 (fun H hH => ⟨rfl, hv6, hσ7, hH⟩)
set_option maxHeartbeats 4000000 in
set_option maxRecDepth 100000 in
theorem m_X5_part {l : Launch} {G : Gt} {b : Nat} {σ : Blk} {I : Heap → Prop} (hI : ∀ H, I H → Bk G (layModel G b) 10 b σ H) (hσ : Rg σ) {a1 : Int} (h1 : inR a1) {a2 : Int} (h2 : inR a2) : MetS l yX5_part cX5_part 3 (some .int) { frames := 0, cells := 0, slots := 0, locals := 0 } G [.ref (b + 0), vI a1, vI a2] I (poP I) (fun _ => False) 0 0 (f_X5_part σ a1 a2) := by
  refine met_of (by decide) (Nat.le_of_ble_eq_true rfl) ?_
  intro p e s m below meth c hC hKA hr _
  have hK := hKA.1
  unfold f_X5_part
  refine s_sub (L' := [(0, .ref (b + 0)), (1, vI a1), (2, vI a2)]) [0, 1, 2] rfl ?_
  refine s_aload_n hC dX5_part_0 rfl 0 rfl ?_
  refine s_get (b := b) hC hK hI (by decide) o_Model rfl q_w_X5 0 (by decide) q_f_X5_7 rfl dX5_part_1 ?_
  refine s_iconst hC dX5_part_4 ?_
  refine s_bipush hC dX5_part_5 (by decide) ?_
  refine s_iload_n hC dX5_part_7 rfl 1 rfl ?_
  refine s_imul hC dX5_part_8 ?_
  refine s_iadd hC dX5_part_9 ?_
  refine s_iload_n hC dX5_part_10 rfl 2 rfl ?_
  refine s_iadd hC dX5_part_11 ?_
  refine s_iaload hC hK hI hσ (by decide) a_Model_1 dX5_part_12 (fun v1 hv1 => ?_)
  exact s_iret hC hr dX5_part_13 (fun H hH => ⟨rfl, hv1, hH⟩)
set_option maxHeartbeats 4000000 in
set_option maxRecDepth 100000 in
theorem m_X5_setPart {l : Launch} {G : Gt} {b : Nat} {σ : Blk} {J : Blk → Heap → Prop} (hJ : Wd G (layModel G b) 10 b J) (hσ : Rg σ) {a1 : Int} (h1 : inR a1) {a2 : Int} (h2 : inR a2) {a3 : Int} (h3 : inR a3) : MetS l yX5_setPart cX5_setPart 4 none { frames := 0, cells := 0, slots := 0, locals := 0 } G [.ref (b + 0), vI a1, vI a2, vI a3] (J σ) (poU J) (Ab b 10) 0 0 (f_X5_setPart σ a1 a2 a3) := by
  refine met_of (by decide) (Nat.le_of_ble_eq_true rfl) ?_
  intro p e s m below meth c hC hKA hr _
  have hK := hKA.1
  unfold f_X5_setPart
  refine s_sub (L' := [(0, .ref (b + 0)), (1, vI a1), (2, vI a2), (3, vI a3)]) [0, 1, 2, 3] rfl ?_
  refine s_aload_n hC dX5_setPart_0 rfl 0 rfl ?_
  refine s_get (b := b) hC hK (hJ.1 σ) (by decide) o_Model rfl q_w_X5 0 (by decide) q_f_X5_7 rfl dX5_setPart_1 ?_
  refine s_iconst hC dX5_setPart_4 ?_
  refine s_bipush hC dX5_setPart_5 (by decide) ?_
  refine s_iload_n hC dX5_setPart_7 rfl 1 rfl ?_
  refine s_imul hC dX5_setPart_8 ?_
  refine s_iadd hC dX5_setPart_9 ?_
  refine s_iload_n hC dX5_setPart_10 rfl 2 rfl ?_
  refine s_iadd hC dX5_setPart_11 ?_
  refine s_iload_n hC dX5_setPart_12 rfl 3 rfl ?_
  refine s_iastore hC hK hJ (fun _ h => h) hσ h3 (by decide) a_Model_1 dX5_setPart_13 (fun σ1 hσ1 => ?_)
  exact s_vret hC hr dX5_setPart_14 (fun H hH => ⟨rfl, hσ1, hH⟩)
set_option maxHeartbeats 4000000 in
set_option maxRecDepth 100000 in
theorem m_X5_rowWith {l : Launch} {G : Gt} {b : Nat} {σ : Blk} {I : Heap → Prop} (hI : ∀ H, I H → Bk G (layModel G b) 10 b σ H) (hσ : Rg σ) {a1 : Int} (h1 : inR a1) : MetS l yX5_rowWith cX5_rowWith 4 (some .int) { frames := 1, cells := 0, slots := 0, locals := 22 } G [.ref (b + 0), vI a1] I (poP I) (fun _ => False) 0 0 (f_X5_rowWith σ a1) := by
  refine met_of (by decide) (Nat.le_of_ble_eq_true rfl) ?_
  intro p e s m below meth c hC hKA hr _
  have hK := hKA.1
  unfold f_X5_rowWith
  refine s_sub (L' := [(0, .ref (b + 0)), (1, vI a1)]) [0, 1] rfl ?_
  refine s_bipush hC dX5_rowWith_0 (by decide) ?_
  refine s_istore_n (L' := [(2, vI ((-6))), (0, .ref (b + 0)), (1, vI a1)]) hC dX5_rowWith_2 rfl (by decide) rfl ?_
  refine s_iconst hC dX5_rowWith_3 ?_
  refine s_istore_n (L' := [(3, vI 0), (2, vI ((-6))), (0, .ref (b + 0)), (1, vI a1)]) hC dX5_rowWith_4 rfl (by decide) rfl ?_
  refine s_sub (L' := [(0, .ref (b + 0)), (1, vI a1), (2, vI ((-6))), (3, vI 0)]) [2, 3, 1, 0] rfl ?_
  refine s_lp_II (F := f_X5_rowWith_L5 σ a1) 5 (fun x1 x2 => [(0, .ref (b + 0)), (1, vI a1), (2, vI x1), (3, vI x2)]) (fun _ _ => rfl) (fun n ih5 x1 x2 hx1 hx2 => ?_) fu ((-6)) 0 (inR_c _ rfl) (inR_c _ rfl)
  rw [f_X5_rowWith_L5]
  refine s_iload_n hC dX5_rowWith_5 rfl 3 rfl ?_
  refine s_bipush hC dX5_rowWith_6 (by decide) ?_
  refine s_icmp_ge (tgt := 43) hC dX5_rowWith_8 (by decide) hx2 (inR_c _ rfl) ?_ ?_
  · refine s_sub (L' := [(2, vI x1)]) [2] rfl ?_
    refine s_iload_n hC dX5_rowWith_43 rfl 0 rfl ?_
    exact s_iret hC hr dX5_rowWith_44 (fun H hH => ⟨rfl, hx1, hH⟩)
  · refine s_aload_n hC dX5_rowWith_11 rfl 0 rfl ?_
    refine s_iload_n hC dX5_rowWith_12 rfl 3 rfl ?_
    refine s_iconst hC dX5_rowWith_13 ?_
    refine s_callV_P (As := [vI x2, vI 0]) (rest := []) (a := b + 0) hC hKA 2 (m_X5_part hI hσ hx2 (inR_c _ rfl)) rfl (cb_of hC 2 q_c_yX5_part q_i_X5 q_m_X5_61 rfl rfl dd_yX5_part ⟨Nat.le_of_ble_eq_true rfl, Nat.le_of_ble_eq_true rfl⟩) q_i_yX5_part q_x_yX5_part (s_recv hK hI (by decide) o_Model rfl) rfl (Nat.le_of_ble_eq_true rfl) dX5_rowWith_14 ⟨Nat.zero_le _, Nat.zero_le _⟩ (fun r3 hr3 => ?_)
    refine s_iconst hC dX5_rowWith_17 ?_
    refine s_jp_I 36 (fun x5 => [(0, .ref (b + 0)), (1, vI a1), (3, vI x2)]) (fun x5 => [vI x5]) (fun x5 hx5 => ?_) (fun j4 hj4 => ?_)
    · refine s_istore_n (L' := [(2, vI x5), (0, .ref (b + 0)), (1, vI a1), (3, vI x2)]) hC dX5_rowWith_36 rfl (by decide) rfl ?_
      refine s_iincK hC dX5_rowWith_37 3 rfl (by decide) (fun v6 => [(3, vI v6), (2, vI x5), (0, .ref (b + 0)), (1, vI a1)]) (fun _ => rfl) (fun v6 hv6 => ?_)
      refine s_goto (tgt := 5) hC dX5_rowWith_40 (by decide) ?_
      refine s_sub (L' := [(0, .ref (b + 0)), (1, vI a1), (2, vI x5), (3, vI v6)]) [2, 3, 1, 0] rfl ?_
      exact ih5 x5 v6 hx5 hv6
    · refine s_icmp_ne (tgt := 35) hC dX5_rowWith_18 (by decide) hr3 (inR_c _ rfl) ?_ ?_
      · refine s_iload_n hC dX5_rowWith_35 rfl 2 rfl ?_
        refine s_sub (L' := [(0, .ref (b + 0)), (1, vI a1), (3, vI x2)]) [0, 1, 3] rfl ?_
        exact hj4 x1 hx1
      · refine s_aload_n hC dX5_rowWith_21 rfl 0 rfl ?_
        refine s_iload_n hC dX5_rowWith_22 rfl 3 rfl ?_
        refine s_iconst hC dX5_rowWith_23 ?_
        refine s_callV_P (As := [vI x2, vI 1]) (rest := []) (a := b + 0) hC hKA 2 (m_X5_part hI hσ hx2 (inR_c _ rfl)) rfl (cb_of hC 2 q_c_yX5_part q_i_X5 q_m_X5_61 rfl rfl dd_yX5_part ⟨Nat.le_of_ble_eq_true rfl, Nat.le_of_ble_eq_true rfl⟩) q_i_yX5_part q_x_yX5_part (s_recv hK hI (by decide) o_Model rfl) rfl (Nat.le_of_ble_eq_true rfl) dX5_rowWith_24 ⟨Nat.zero_le _, Nat.zero_le _⟩ (fun r7 hr7 => ?_)
        refine s_iload_n hC dX5_rowWith_27 rfl 1 rfl ?_
        refine s_icmp_ne (tgt := 35) hC dX5_rowWith_28 (by decide) hr7 h1 ?_ ?_
        · refine s_iload_n hC dX5_rowWith_35 rfl 2 rfl ?_
          refine s_sub (L' := [(0, .ref (b + 0)), (1, vI a1), (3, vI x2)]) [0, 1, 3] rfl ?_
          exact hj4 x1 hx1
        · refine s_sub (L' := [(0, .ref (b + 0)), (1, vI a1), (3, vI x2)]) [0, 1, 3] rfl ?_
          refine s_iload_n hC dX5_rowWith_31 rfl 2 rfl ?_
          refine s_goto (tgt := 36) hC dX5_rowWith_32 (by decide) ?_
          exact hj4 x2 hx2
set_option maxHeartbeats 4000000 in
set_option maxRecDepth 100000 in
theorem m_X5_letterAt {l : Launch} {G : Gt} {b : Nat} {σ : Blk} {I : Heap → Prop} (hI : ∀ H, I H → Bk G (layModel G b) 10 b σ H) (hσ : Rg σ) {a1 : Int} (h1 : inR a1) {a2 : Int} (h2 : inR a2) : MetS l yX5_letterAt cX5_letterAt 3 (some .int) { frames := 1, cells := 0, slots := 0, locals := 22 } G [.ref (b + 0), vI a1, vI a2] I (poP I) (fun _ => False) 0 0 (f_X5_letterAt σ a1 a2) := by
  refine met_of (by decide) (Nat.le_of_ble_eq_true rfl) ?_
  intro p e s m below meth c hC hKA hr _
  have hK := hKA.1
  unfold f_X5_letterAt
  refine s_sub (L' := [(0, .ref (b + 0)), (1, vI a1), (2, vI a2)]) [0, 1, 2] rfl ?_
  refine s_aload_n hC dX5_letterAt_0 rfl 0 rfl ?_
  refine s_iload_n hC dX5_letterAt_1 rfl 1 rfl ?_
  refine s_iconst hC dX5_letterAt_2 ?_
  refine s_iload_n hC dX5_letterAt_3 rfl 2 rfl ?_
  refine s_bipush hC dX5_letterAt_4 (by decide) ?_
  refine s_idiv hC dX5_letterAt_6 h2 (inR_c _ rfl) (by decide) (fun v1 hv1 => ?_)
  refine s_iadd hC dX5_letterAt_7 ?_
  refine s_ck0 (fun v2 hv2 => ?_)
  refine s_callV_P (As := [vI a1, vI v2]) (rest := []) (a := b + 0) hC hKA 2 (m_X5_part hI hσ h1 hv2) rfl (cb_of hC 2 q_c_yX5_part q_i_X5 q_m_X5_61 rfl rfl dd_yX5_part ⟨Nat.le_of_ble_eq_true rfl, Nat.le_of_ble_eq_true rfl⟩) q_i_yX5_part q_x_yX5_part (s_recv hK hI (by decide) o_Model rfl) rfl (Nat.le_of_ble_eq_true rfl) dX5_letterAt_8 ⟨Nat.zero_le _, Nat.zero_le _⟩ (fun r3 hr3 => ?_)
  refine s_iconst hC dX5_letterAt_11 ?_
  refine s_iload_n hC dX5_letterAt_12 rfl 2 rfl ?_
  refine s_bipush hC dX5_letterAt_13 (by decide) ?_
  refine s_irem hC dX5_letterAt_15 h2 (inR_c _ rfl) (by decide) (fun v4 hv4 => ?_)
  refine s_imul hC dX5_letterAt_16 ?_
  refine s_ishr hC dX5_letterAt_17 ?_
  refine s_bipush hC dX5_letterAt_18 (by decide) ?_
  refine s_iand hC dX5_letterAt_20 ?_
  exact s_iret hC hr dX5_letterAt_21 (fun H hH => ⟨rfl, (i32_in _), hH⟩)
set_option maxHeartbeats 4000000 in
set_option maxRecDepth 100000 in
theorem m_X5_hasMoved {l : Launch} {G : Gt} {b : Nat} {σ : Blk} {I : Heap → Prop} (hI : ∀ H, I H → Bk G (layModel G b) 10 b σ H) (hσ : Rg σ) {a1 : Int} (h1 : inR a1) : MetS l yX5_hasMoved cX5_hasMoved 2 (some .boolean) { frames := 1, cells := 0, slots := 0, locals := 22 } G [.ref (b + 0), vI a1] I (poP I) (fun _ => False) 0 0 (f_X5_hasMoved σ a1) := by
  refine met_of (by decide) (Nat.le_of_ble_eq_true rfl) ?_
  intro p e s m below meth c hC hKA hr _
  have hK := hKA.1
  unfold f_X5_hasMoved
  refine s_sub (L' := [(0, .ref (b + 0)), (1, vI a1)]) [0, 1] rfl ?_
  refine s_aload_n hC dX5_hasMoved_0 rfl 0 rfl ?_
  refine s_iload_n hC dX5_hasMoved_1 rfl 1 rfl ?_
  refine s_iconst hC dX5_hasMoved_2 ?_
  refine s_callV_P (As := [vI a1, vI 3]) (rest := []) (a := b + 0) hC hKA 2 (m_X5_part hI hσ h1 (inR_c _ rfl)) rfl (cb_of hC 2 q_c_yX5_part q_i_X5 q_m_X5_61 rfl rfl dd_yX5_part ⟨Nat.le_of_ble_eq_true rfl, Nat.le_of_ble_eq_true rfl⟩) q_i_yX5_part q_x_yX5_part (s_recv hK hI (by decide) o_Model rfl) rfl (Nat.le_of_ble_eq_true rfl) dX5_hasMoved_3 ⟨Nat.zero_le _, Nat.zero_le _⟩ (fun r1 hr1 => ?_)
  refine s_aload_n hC dX5_hasMoved_6 rfl 0 rfl ?_
  refine s_iload_n hC dX5_hasMoved_7 rfl 1 rfl ?_
  refine s_iconst hC dX5_hasMoved_8 ?_
  refine s_callV_P (As := [vI a1, vI 4]) (rest := [vI r1]) (a := b + 0) hC hKA 2 (m_X5_part hI hσ h1 (inR_c _ rfl)) rfl (cb_of hC 2 q_c_yX5_part q_i_X5 q_m_X5_61 rfl rfl dd_yX5_part ⟨Nat.le_of_ble_eq_true rfl, Nat.le_of_ble_eq_true rfl⟩) q_i_yX5_part q_x_yX5_part (s_recv hK hI (by decide) o_Model rfl) rfl (Nat.le_of_ble_eq_true rfl) dX5_hasMoved_9 ⟨Nat.zero_le _, Nat.zero_le _⟩ (fun r2 hr2 => ?_)
  refine s_icmp_eq (tgt := 19) hC dX5_hasMoved_12 (by decide) hr1 hr2 ?_ ?_
  · refine s_sub (L' := []) [] rfl ?_
    refine s_iconst hC dX5_hasMoved_19 ?_
    exact s_zret hC hr (Or.inl rfl) dX5_hasMoved_20 (fun H hH => ⟨rfl, (inR_c _ rfl), hH⟩)
  · refine s_sub (L' := []) [] rfl ?_
    refine s_iconst hC dX5_hasMoved_15 ?_
    refine s_goto (tgt := 20) hC dX5_hasMoved_16 (by decide) ?_
    exact s_zret hC hr (Or.inr rfl) dX5_hasMoved_20 (fun H hH => ⟨rfl, (inR_c _ rfl), hH⟩)
set_option maxHeartbeats 4000000 in
set_option maxRecDepth 100000 in
theorem m_X5_findPieces {l : Launch} {G : Gt} {b : Nat} {σ : Blk} {J : Blk → Heap → Prop} (hJ : Wd G (layModel G b) 10 b J) (hσ : Rg σ) {a1 : Int} (h1 : inR a1) : MetS l yX5_findPieces cX5_findPieces 4 none { frames := 1, cells := 0, slots := 0, locals := 20 } G [.ref (b + 0), vI a1] (J σ) (poU J) (Ab b 10) 0 0 (f_X5_findPieces σ a1) := by
  refine met_of (by decide) (Nat.le_of_ble_eq_true rfl) ?_
  intro p e s m below meth c hC hKA hr _
  have hK := hKA.1
  unfold f_X5_findPieces
  refine s_sub (L' := [(0, .ref (b + 0)), (1, vI a1)]) [0, 1] rfl ?_
  refine s_aload_n hC dX5_findPieces_0 rfl 0 rfl ?_
  refine s_iconst hC dX5_findPieces_1 ?_
  refine s_putP (ty := .int) hC hK hJ (fun _ h => h) hσ (inR_c _ rfl) (by decide) o_Model rfl q_w_X5 tyX5_ok nmX5 12 (by decide) q_f_X5_65 rfl (by decide +kernel) rfl rfl (fun _ => Nat.le_of_ble_eq_true rfl) u_Model_12 dX5_findPieces_2 (fun σ1 hσ1 => ?_)
  refine s_iconst hC dX5_findPieces_5 ?_
  refine s_istore_n (L' := [(2, vI 0), (0, .ref (b + 0)), (1, vI a1)]) hC dX5_findPieces_6 rfl (by decide) rfl ?_
  refine s_sub (L' := [(0, .ref (b + 0)), (1, vI a1), (2, vI 0)]) [1, 2, 0] rfl ?_
  refine s_lp_IB (J := J) (F := f_X5_findPieces_L7 a1) 7 (fun x2 => [(0, .ref (b + 0)), (1, vI a1), (2, vI x2)]) (fun _ _ => rfl) (fun n ih7 x2 σ3 hx2 hσ3 => ?_) fu 0 σ1 (inR_c _ rfl) hσ1
  rw [f_X5_findPieces_L7]
  refine s_iload_n hC dX5_findPieces_7 rfl 2 rfl ?_
  refine s_sipush hC dX5_findPieces_8 (by decide) ?_
  refine s_icmp_ge (tgt := 67) hC dX5_findPieces_11 (by decide) hx2 (inR_c _ rfl) ?_ ?_
  · refine s_sub (L' := []) [] rfl ?_
    exact s_vret hC hr dX5_findPieces_67 (fun H hH => ⟨rfl, hσ3, hH⟩)
  · refine s_aload_n hC dX5_findPieces_14 rfl 0 rfl ?_
    refine s_get (b := b) hC hK (hJ.1 σ3) (by decide) o_Model rfl q_w_X5 0 (by decide) q_f_X5_7 rfl dX5_findPieces_15 ?_
    refine s_sipush hC dX5_findPieces_18 (by decide) ?_
    refine s_iload_n hC dX5_findPieces_21 rfl 2 rfl ?_
    refine s_iadd hC dX5_findPieces_22 ?_
    refine s_iaload hC hK (hJ.1 σ3) hσ3 (by decide) a_Model_1 dX5_findPieces_23 (fun v4 hv4 => ?_)
    refine s_istore_n (L' := [(3, vI v4), (0, .ref (b + 0)), (1, vI a1), (2, vI x2)]) hC dX5_findPieces_24 rfl (by decide) rfl ?_
    refine s_iload_n hC dX5_findPieces_25 rfl 0 rfl ?_
    refine s_callS_P (As := [vI v4]) (rest := []) hC hKA 1 (m_X5_kindOf (I := J σ3) hv4) rfl (cb_of hC 1 q_c_yX5_kindOf q_i_X5 q_m_X5_45 rfl rfl dd_yX5_kindOf ⟨Nat.le_of_ble_eq_true rfl, Nat.le_of_ble_eq_true rfl⟩) q_s_yX5_kindOf rfl (Nat.le_of_ble_eq_true rfl) dX5_findPieces_26 ⟨Nat.zero_le _, Nat.zero_le _⟩ (fun r5 hr5 => ?_)
    refine s_iconst hC dX5_findPieces_29 ?_
    refine s_jp_B (J := J) 61 ([(0, .ref (b + 0)), (1, vI a1), (2, vI x2)]) ([]) (fun σ7 hσ7 => ?_) (fun j6 hj6 => ?_)
    · refine s_iincK hC dX5_findPieces_61 2 rfl (by decide) (fun v8 => [(2, vI v8), (0, .ref (b + 0)), (1, vI a1)]) (fun _ => rfl) (fun v8 hv8 => ?_)
      refine s_goto (tgt := 7) hC dX5_findPieces_64 (by decide) ?_
      refine s_sub (L' := [(0, .ref (b + 0)), (1, vI a1), (2, vI v8)]) [1, 2, 0] rfl ?_
      exact ih7 v8 σ7 hv8 hσ7
    · refine s_icmp_ne (tgt := 61) hC dX5_findPieces_30 (by decide) hr5 (inR_c _ rfl) ?_ ?_
      · refine s_sub (L' := [(0, .ref (b + 0)), (1, vI a1), (2, vI x2)]) [1, 2, 3] rfl ?_
        exact hj6 σ3 hσ3
      · refine s_sub (L' := [(0, .ref (b + 0)), (1, vI a1), (2, vI x2), (3, vI v4)]) [1, 2, 3, 0] rfl ?_
        refine s_iload_n hC dX5_findPieces_33 rfl 3 rfl ?_
        refine s_callS_P (As := [vI v4]) (rest := []) hC hKA 1 (m_X5_rowOf (I := J σ3) hv4) rfl (cb_of hC 1 q_c_yX5_rowOf q_i_X5 q_m_X5_68 rfl rfl dd_yX5_rowOf ⟨Nat.le_of_ble_eq_true rfl, Nat.le_of_ble_eq_true rfl⟩) q_s_yX5_rowOf rfl (Nat.le_of_ble_eq_true rfl) dX5_findPieces_34 ⟨Nat.zero_le _, Nat.zero_le _⟩ (fun r9 hr9 => ?_)
        refine s_iload_n hC dX5_findPieces_37 rfl 1 rfl ?_
        refine s_icmp_ne (tgt := 61) hC dX5_findPieces_38 (by decide) hr9 h1 ?_ ?_
        · refine s_sub (L' := [(0, .ref (b + 0)), (1, vI a1), (2, vI x2)]) [0, 1, 2] rfl ?_
          exact hj6 σ3 hσ3
        · refine s_aload_n hC dX5_findPieces_41 rfl 0 rfl ?_
          refine s_get (b := b) hC hK (hJ.1 σ3) (by decide) o_Model rfl q_w_X5 11 (by decide) q_f_X5_34 rfl dX5_findPieces_42 ?_
          refine s_iload_n hC dX5_findPieces_45 rfl 3 rfl ?_
          refine s_callS_P (As := [vI v4]) (rest := [.ref (b + 9)]) hC hKA 1 (m_X5_numberOf (I := J σ3) hv4) rfl (cb_of hC 1 q_c_yX5_numberOf q_i_X5 q_m_X5_71 rfl rfl dd_yX5_numberOf ⟨Nat.le_of_ble_eq_true rfl, Nat.le_of_ble_eq_true rfl⟩) q_s_yX5_numberOf rfl (Nat.le_of_ble_eq_true rfl) dX5_findPieces_46 ⟨Nat.zero_le _, Nat.zero_le _⟩ (fun r10 hr10 => ?_)
          refine s_iload_n hC dX5_findPieces_49 rfl 2 rfl ?_
          refine s_iastore hC hK hJ (fun _ h => h) hσ3 hx2 (by decide) a_Model_9 dX5_findPieces_50 (fun σ11 hσ11 => ?_)
          refine s_aload_n hC dX5_findPieces_51 rfl 0 rfl ?_
          refine s_dup hC dX5_findPieces_52 rfl ?_
          refine s_get (b := b) hC hK (hJ.1 σ11) (by decide) o_Model rfl q_w_X5 12 (by decide) q_f_X5_65 rfl dX5_findPieces_53 ?_
          refine s_iconst hC dX5_findPieces_56 ?_
          refine s_iadd hC dX5_findPieces_57 ?_
          refine s_ck0 (fun v12 hv12 => ?_)
          refine s_putP (ty := .int) hC hK hJ (fun _ h => h) hσ11 hv12 (by decide) o_Model rfl q_w_X5 tyX5_ok nmX5 12 (by decide) q_f_X5_65 rfl (by decide +kernel) rfl rfl (fun _ => Nat.le_of_ble_eq_true rfl) u_Model_12 dX5_findPieces_58 (fun σ13 hσ13 => ?_)
          refine s_sub (L' := [(0, .ref (b + 0)), (1, vI a1), (2, vI x2)]) [0, 1, 2] rfl ?_
          exact hj6 σ13 hσ13
set_option maxHeartbeats 4000000 in
set_option maxRecDepth 100000 in
theorem m_X5_dropPieces {l : Launch} {G : Gt} {b : Nat} {σ : Blk} {J : Blk → Heap → Prop} (hJ : Wd G (layModel G b) 10 b J) (hσ : Rg σ) {a1 : Int} (h1 : inR a1) : MetS l yX5_dropPieces cX5_dropPieces 3 none { frames := 2, cells := 0, slots := 0, locals := 43 } G [.ref (b + 0), vI a1] (J σ) (poU J) (Ab b 10) 0 0 (f_X5_dropPieces σ a1) := by
  refine met_of (by decide) (Nat.le_of_ble_eq_true rfl) ?_
  intro p e s m below meth c hC hKA hr _
  have hK := hKA.1
  unfold f_X5_dropPieces
  refine s_sub (L' := [(0, .ref (b + 0)), (1, vI a1)]) [0, 1] rfl ?_
  refine s_aload_n hC dX5_dropPieces_0 rfl 0 rfl ?_
  refine s_iload_n hC dX5_dropPieces_1 rfl 1 rfl ?_
  refine s_callV_U (As := [vI a1]) (rest := []) (a := b + 0) hC hKA 1 (m_X5_findPieces hJ hσ h1) (fun _ h => h) rfl (cb_of hC 1 q_c_yX5_findPieces q_i_X5 q_m_X5_74 rfl rfl dd_yX5_findPieces ⟨Nat.le_of_ble_eq_true rfl, Nat.le_of_ble_eq_true rfl⟩) q_i_yX5_findPieces q_x_yX5_findPieces (s_recv hK (hJ.1 σ) (by decide) o_Model rfl) rfl (Nat.le_of_ble_eq_true rfl) dX5_dropPieces_2 ⟨Nat.zero_le _, Nat.zero_le _⟩ (fun σ1 hσ1 => ?_)
  refine s_iconst hC dX5_dropPieces_5 ?_
  refine s_istore_n (L' := [(2, vI 0), (0, .ref (b + 0)), (1, vI a1)]) hC dX5_dropPieces_6 rfl (by decide) rfl ?_
  refine s_sub (L' := [(0, .ref (b + 0)), (2, vI 0)]) [1, 0] rfl ?_
  refine s_lp_IB (J := J) (F := f_X5_dropPieces_L7) 7 (fun x2 => [(0, .ref (b + 0)), (2, vI x2)]) (fun _ _ => rfl) (fun n ih7 x2 σ3 hx2 hσ3 => ?_) fu 0 σ1 (inR_c _ rfl) hσ1
  rw [f_X5_dropPieces_L7]
  refine s_iload_n hC dX5_dropPieces_7 rfl 1 rfl ?_
  refine s_aload_n hC dX5_dropPieces_8 rfl 0 rfl ?_
  refine s_get (b := b) hC hK (hJ.1 σ3) (by decide) o_Model rfl q_w_X5 12 (by decide) q_f_X5_65 rfl dX5_dropPieces_9 ?_
  refine s_icmp_ge (tgt := 37) hC dX5_dropPieces_12 (by decide) hx2 (hσ3 0 12) ?_ ?_
  · refine s_sub (L' := []) [] rfl ?_
    exact s_vret hC hr dX5_dropPieces_37 (fun H hH => ⟨rfl, hσ3, hH⟩)
  · refine s_aload_n hC dX5_dropPieces_15 rfl 0 rfl ?_
    refine s_get (b := b) hC hK (hJ.1 σ3) (by decide) o_Model rfl q_w_X5 0 (by decide) q_f_X5_7 rfl dX5_dropPieces_16 ?_
    refine s_sipush hC dX5_dropPieces_19 (by decide) ?_
    refine s_aload_n hC dX5_dropPieces_22 rfl 0 rfl ?_
    refine s_get (b := b) hC hK (hJ.1 σ3) (by decide) o_Model rfl q_w_X5 11 (by decide) q_f_X5_34 rfl dX5_dropPieces_23 ?_
    refine s_iload_n hC dX5_dropPieces_26 rfl 1 rfl ?_
    refine s_iaload hC hK (hJ.1 σ3) hσ3 (by decide) a_Model_9 dX5_dropPieces_27 (fun v4 hv4 => ?_)
    refine s_iadd hC dX5_dropPieces_28 ?_
    refine s_iconst hC dX5_dropPieces_29 ?_
    refine s_iastore hC hK hJ (fun _ h => h) hσ3 (inR_c _ rfl) (by decide) a_Model_1 dX5_dropPieces_30 (fun σ5 hσ5 => ?_)
    refine s_iincK hC dX5_dropPieces_31 1 rfl (by decide) (fun v6 => [(2, vI v6), (0, .ref (b + 0))]) (fun _ => rfl) (fun v6 hv6 => ?_)
    refine s_goto (tgt := 7) hC dX5_dropPieces_34 (by decide) ?_
    refine s_sub (L' := [(0, .ref (b + 0)), (2, vI v6)]) [1, 0] rfl ?_
    exact ih7 v6 σ5 hv6 hσ5
set_option maxHeartbeats 4000000 in
set_option maxRecDepth 100000 in
theorem m_X5_headOf {l : Launch} {G : Gt} {b : Nat} {σ : Blk} {I : Heap → Prop} (hI : ∀ H, I H → Bk G (layModel G b) 10 b σ H) (hσ : Rg σ) {a1 : Int} (h1 : inR a1) : MetS l yX5_headOf cX5_headOf 2 (some .int) { frames := 1, cells := 0, slots := 0, locals := 22 } G [.ref (b + 0), vI a1] I (poP I) (fun _ => False) 0 0 (f_X5_headOf σ a1) := by
  refine met_of (by decide) (Nat.le_of_ble_eq_true rfl) ?_
  intro p e s m below meth c hC hKA hr _
  have hK := hKA.1
  unfold f_X5_headOf
  refine s_sub (L' := [(0, .ref (b + 0)), (1, vI a1)]) [0, 1] rfl ?_
  refine s_aload_n hC dX5_headOf_0 rfl 0 rfl ?_
  refine s_get (b := b) hC hK hI (by decide) o_Model rfl q_w_X5 0 (by decide) q_f_X5_7 rfl dX5_headOf_1 ?_
  refine s_sipush hC dX5_headOf_4 (by decide) ?_
  refine s_aload_n hC dX5_headOf_7 rfl 0 rfl ?_
  refine s_iload_n hC dX5_headOf_8 rfl 1 rfl ?_
  refine s_iconst hC dX5_headOf_9 ?_
  refine s_callV_P (As := [vI a1, vI 4]) (rest := [vI 363, .ref (b + 1)]) (a := b + 0) hC hKA 2 (m_X5_part hI hσ h1 (inR_c _ rfl)) rfl (cb_of hC 2 q_c_yX5_part q_i_X5 q_m_X5_61 rfl rfl dd_yX5_part ⟨Nat.le_of_ble_eq_true rfl, Nat.le_of_ble_eq_true rfl⟩) q_i_yX5_part q_x_yX5_part (s_recv hK hI (by decide) o_Model rfl) rfl (Nat.le_of_ble_eq_true rfl) dX5_headOf_10 ⟨Nat.zero_le _, Nat.zero_le _⟩ (fun r1 hr1 => ?_)
  refine s_iadd hC dX5_headOf_13 ?_
  refine s_iaload hC hK hI hσ (by decide) a_Model_1 dX5_headOf_14 (fun v2 hv2 => ?_)
  exact s_iret hC hr dX5_headOf_15 (fun H hH => ⟨rfl, hv2, hH⟩)
set_option maxHeartbeats 4000000 in
set_option maxRecDepth 100000 in
theorem m_X5_costOf {l : Launch} {G : Gt} {b : Nat} {σ : Blk} {J : Blk → Heap → Prop} (hJ : Wd G (layModel G b) 10 b J) (hσ : Rg σ) {a1 : Int} (h1 : inR a1) : MetS l yX5_costOf cX5_costOf 6 (some .int) { frames := 2, cells := 0, slots := 0, locals := 43 } G [.ref (b + 0), vI a1] (J σ) (poW J) (Ab b 10) 0 0 (f_X5_costOf σ a1) := by
  refine met_of (by decide) (Nat.le_of_ble_eq_true rfl) ?_
  intro p e s m below meth c hC hKA hr _
  have hK := hKA.1
  unfold f_X5_costOf
  refine s_sub (L' := [(0, .ref (b + 0)), (1, vI a1)]) [0, 1] rfl ?_
  refine s_aload_n hC dX5_costOf_0 rfl 0 rfl ?_
  refine s_iload_n hC dX5_costOf_1 rfl 1 rfl ?_
  refine s_callV_U (As := [vI a1]) (rest := []) (a := b + 0) hC hKA 1 (m_X5_findPieces hJ hσ h1) (fun _ h => h) rfl (cb_of hC 1 q_c_yX5_findPieces q_i_X5 q_m_X5_74 rfl rfl dd_yX5_findPieces ⟨Nat.le_of_ble_eq_true rfl, Nat.le_of_ble_eq_true rfl⟩) q_i_yX5_findPieces q_x_yX5_findPieces (s_recv hK (hJ.1 σ) (by decide) o_Model rfl) rfl (Nat.le_of_ble_eq_true rfl) dX5_costOf_2 ⟨Nat.zero_le _, Nat.zero_le _⟩ (fun σ1 hσ1 => ?_)
  refine s_aload_n hC dX5_costOf_5 rfl 0 rfl ?_
  refine s_iload_n hC dX5_costOf_6 rfl 1 rfl ?_
  refine s_iconst hC dX5_costOf_7 ?_
  refine s_callV_P (As := [vI a1, vI 3]) (rest := []) (a := b + 0) hC hKA 2 (m_X5_part (hJ.1 σ1) hσ1 h1 (inR_c _ rfl)) rfl (cb_of hC 2 q_c_yX5_part q_i_X5 q_m_X5_61 rfl rfl dd_yX5_part ⟨Nat.le_of_ble_eq_true rfl, Nat.le_of_ble_eq_true rfl⟩) q_i_yX5_part q_x_yX5_part (s_recv hK (hJ.1 σ1) (by decide) o_Model rfl) rfl (Nat.le_of_ble_eq_true rfl) dX5_costOf_8 ⟨Nat.zero_le _, Nat.zero_le _⟩ (fun r2 hr2 => ?_)
  refine s_bipush hC dX5_costOf_11 (by decide) ?_
  refine s_idiv hC dX5_costOf_13 hr2 (inR_c _ rfl) (by decide) (fun v3 hv3 => ?_)
  refine s_istore_n (L' := [(2, vI v3), (0, .ref (b + 0)), (1, vI a1)]) hC dX5_costOf_14 rfl (by decide) rfl ?_
  refine s_iconst hC dX5_costOf_15 ?_
  refine s_istore_n (L' := [(3, vI 1), (2, vI v3), (0, .ref (b + 0)), (1, vI a1)]) hC dX5_costOf_16 rfl (by decide) rfl ?_
  refine s_iconst hC dX5_costOf_17 ?_
  refine s_istore (L' := [(4, vI ((-1))), (3, vI 1), (2, vI v3), (0, .ref (b + 0)), (1, vI a1)]) hC dX5_costOf_18 (by decide) rfl ?_
  refine s_sub (L' := [(0, .ref (b + 0)), (1, vI a1), (2, vI v3), (3, vI 1), (4, vI ((-1)))]) [3, 4, 2, 1, 0] rfl ?_
  refine s_lp_III (F := f_X5_costOf_L20 a1 σ1) 20 (fun x4 x5 x6 => [(0, .ref (b + 0)), (1, vI a1), (2, vI x4), (3, vI x5), (4, vI x6)]) (fun _ _ _ => rfl) (fun n ih20 x4 x5 x6 hx4 hx5 hx6 => ?_) fu v3 1 ((-1)) hv3 (inR_c _ rfl) (inR_c _ rfl)
  rw [f_X5_costOf_L20]
  refine s_iload hC dX5_costOf_20 4 rfl ?_
  refine s_aload_n hC dX5_costOf_22 rfl 0 rfl ?_
  refine s_get (b := b) hC hK (hJ.1 σ1) (by decide) o_Model rfl q_w_X5 12 (by decide) q_f_X5_65 rfl dX5_costOf_23 ?_
  refine s_icmp_ge (tgt := 78) hC dX5_costOf_26 (by decide) hx6 (hσ1 0 12) ?_ ?_
  · refine s_sub (L' := [(3, vI x5)]) [3] rfl ?_
    refine s_iload_n hC dX5_costOf_78 rfl 0 rfl ?_
    exact s_iret hC hr dX5_costOf_79 (fun H hH => ⟨rfl, hx5, hσ1, hH⟩)
  · refine s_iload hC dX5_costOf_29 4 rfl ?_
    refine s_jp_I 50 (fun x8 => [(0, .ref (b + 0)), (1, vI a1), (2, vI x4), (3, vI x5), (4, vI x6)]) (fun x8 => [vI x8]) (fun x8 hx8 => ?_) (fun j7 hj7 => ?_)
    · refine s_bipush hC dX5_costOf_50 (by decide) ?_
      refine s_idiv hC dX5_costOf_52 hx8 (inR_c _ rfl) (by decide) (fun v9 hv9 => ?_)
      refine s_istore (L' := [(5, vI v9), (0, .ref (b + 0)), (1, vI a1), (2, vI x4), (3, vI x5), (4, vI x6)]) hC dX5_costOf_53 (by decide) rfl ?_
      refine s_iload_n hC dX5_costOf_55 rfl 4 rfl ?_
      refine s_iload hC dX5_costOf_56 0 rfl ?_
      refine s_iload_n hC dX5_costOf_58 rfl 3 rfl ?_
      refine s_jp_I 67 (fun x11 => [(0, .ref (b + 0)), (1, vI a1), (4, vI x6), (5, vI v9)]) (fun x11 => [vI x11, vI x5]) (fun x11 hx11 => ?_) (fun j10 hj10 => ?_)
      · refine s_iadd hC dX5_costOf_67 ?_
        refine s_ck0 (fun v12 hv12 => ?_)
        refine s_istore_n (L' := [(3, vI v12), (0, .ref (b + 0)), (1, vI a1), (4, vI x6), (5, vI v9)]) hC dX5_costOf_68 rfl (by decide) rfl ?_
        refine s_iload hC dX5_costOf_69 4 rfl ?_
        refine s_istore_n (L' := [(2, vI v9), (3, vI v12), (0, .ref (b + 0)), (1, vI a1), (4, vI x6), (5, vI v9)]) hC dX5_costOf_71 rfl (by decide) rfl ?_
        refine s_iincK hC dX5_costOf_72 4 rfl (by decide) (fun v13 => [(4, vI v13), (2, vI v9), (3, vI v12), (0, .ref (b + 0)), (1, vI a1), (5, vI v9)]) (fun _ => rfl) (fun v13 hv13 => ?_)
        refine s_goto (tgt := 20) hC dX5_costOf_75 (by decide) ?_
        refine s_sub (L' := [(0, .ref (b + 0)), (1, vI a1), (2, vI v9), (3, vI v12), (4, vI v13)]) [3, 4, 1, 2, 0] rfl ?_
        exact ih20 v9 v12 v13 hv9 hv12 hv13
      · refine s_icmp_ne (tgt := 66) hC dX5_costOf_59 (by decide) hv9 hx4 ?_ ?_
        · refine s_sub (L' := [(0, .ref (b + 0)), (1, vI a1), (4, vI x6), (5, vI v9)]) [1, 2, 5, 0] rfl ?_
          refine s_iconst hC dX5_costOf_66 ?_
          exact hj10 1 (inR_c _ rfl)
        · refine s_sub (L' := [(0, .ref (b + 0)), (1, vI a1), (4, vI x6), (5, vI v9)]) [1, 2, 5, 0] rfl ?_
          refine s_iconst hC dX5_costOf_62 ?_
          refine s_goto (tgt := 67) hC dX5_costOf_63 (by decide) ?_
          exact hj10 0 (inR_c _ rfl)
    · refine s_if_ge (tgt := 43) hC dX5_costOf_31 (by decide) hx6 ?_ ?_
      · refine s_aload_n hC dX5_costOf_43 rfl 0 rfl ?_
        refine s_get (b := b) hC hK (hJ.1 σ1) (by decide) o_Model rfl q_w_X5 11 (by decide) q_f_X5_34 rfl dX5_costOf_44 ?_
        refine s_iload hC dX5_costOf_47 4 rfl ?_
        refine s_iaload hC hK (hJ.1 σ1) hσ1 (by decide) a_Model_9 dX5_costOf_49 (fun v14 hv14 => ?_)
        exact hj7 v14 hv14
      · refine s_aload_n hC dX5_costOf_34 rfl 0 rfl ?_
        refine s_iload_n hC dX5_costOf_35 rfl 1 rfl ?_
        refine s_iconst hC dX5_costOf_36 ?_
        refine s_callV_P (As := [vI a1, vI 4]) (rest := []) (a := b + 0) hC hKA 2 (m_X5_part (hJ.1 σ1) hσ1 h1 (inR_c _ rfl)) rfl (cb_of hC 2 q_c_yX5_part q_i_X5 q_m_X5_61 rfl rfl dd_yX5_part ⟨Nat.le_of_ble_eq_true rfl, Nat.le_of_ble_eq_true rfl⟩) q_i_yX5_part q_x_yX5_part (s_recv hK (hJ.1 σ1) (by decide) o_Model rfl) rfl (Nat.le_of_ble_eq_true rfl) dX5_costOf_37 ⟨Nat.zero_le _, Nat.zero_le _⟩ (fun r15 hr15 => ?_)
        refine s_goto (tgt := 50) hC dX5_costOf_40 (by decide) ?_
        exact hj7 r15 hr15
set_option maxHeartbeats 4000000 in
set_option maxRecDepth 100000 in
theorem m_X5_cellsOfRow {l : Launch} {G : Gt} {b : Nat} {σ : Blk} {J : Blk → Heap → Prop} (hJ : Wd G (layModel G b) 10 b J) (hσ : Rg σ) {a1 : Int} (h1 : inR a1) : MetS l yX5_cellsOfRow cX5_cellsOfRow 4 (some .int) { frames := 2, cells := 0, slots := 0, locals := 43 } G [.ref (b + 0), vI a1] (J σ) (poW J) (Ab b 10) 0 0 (f_X5_cellsOfRow σ a1) := by
  refine met_of (by decide) (Nat.le_of_ble_eq_true rfl) ?_
  intro p e s m below meth c hC hKA hr _
  have hK := hKA.1
  unfold f_X5_cellsOfRow
  refine s_sub (L' := [(0, .ref (b + 0)), (1, vI a1)]) [0, 1] rfl ?_
  refine s_aload_n hC dX5_cellsOfRow_0 rfl 0 rfl ?_
  refine s_iload_n hC dX5_cellsOfRow_1 rfl 1 rfl ?_
  refine s_callV_U (As := [vI a1]) (rest := []) (a := b + 0) hC hKA 1 (m_X5_findPieces hJ hσ h1) (fun _ h => h) rfl (cb_of hC 1 q_c_yX5_findPieces q_i_X5 q_m_X5_74 rfl rfl dd_yX5_findPieces ⟨Nat.le_of_ble_eq_true rfl, Nat.le_of_ble_eq_true rfl⟩) q_i_yX5_findPieces q_x_yX5_findPieces (s_recv hK (hJ.1 σ) (by decide) o_Model rfl) rfl (Nat.le_of_ble_eq_true rfl) dX5_cellsOfRow_2 ⟨Nat.zero_le _, Nat.zero_le _⟩ (fun σ1 hσ1 => ?_)
  refine s_aload_n hC dX5_cellsOfRow_5 rfl 0 rfl ?_
  refine s_iload_n hC dX5_cellsOfRow_6 rfl 1 rfl ?_
  refine s_callV_P (As := [vI a1]) (rest := []) (a := b + 0) hC hKA 1 (m_X5_headOf (hJ.1 σ1) hσ1 h1) rfl (cb_of hC 1 q_c_yX5_headOf q_i_X5 q_m_X5_78 rfl rfl dd_yX5_headOf ⟨Nat.le_of_ble_eq_true rfl, Nat.le_of_ble_eq_true rfl⟩) q_i_yX5_headOf q_x_yX5_headOf (s_recv hK (hJ.1 σ1) (by decide) o_Model rfl) rfl (Nat.le_of_ble_eq_true rfl) dX5_cellsOfRow_7 ⟨Nat.zero_le _, Nat.zero_le _⟩ (fun r2 hr2 => ?_)
  refine s_callS_P (As := [vI r2]) (rest := []) hC hKA 1 (m_X5_cellsOf (I := J σ1) hr2) rfl (cb_of hC 1 q_c_yX5_cellsOf q_i_X5 q_m_X5_52 rfl rfl dd_yX5_cellsOf ⟨Nat.le_of_ble_eq_true rfl, Nat.le_of_ble_eq_true rfl⟩) q_s_yX5_cellsOf rfl (Nat.le_of_ble_eq_true rfl) dX5_cellsOfRow_10 ⟨Nat.zero_le _, Nat.zero_le _⟩ (fun r3 hr3 => ?_)
  refine s_aload_n hC dX5_cellsOfRow_13 rfl 0 rfl ?_
  refine s_iload_n hC dX5_cellsOfRow_14 rfl 1 rfl ?_
  refine s_callV_P (As := [vI a1]) (rest := [vI r3]) (a := b + 0) hC hKA 1 (m_X5_hasMoved (hJ.1 σ1) hσ1 h1) rfl (cb_of hC 1 q_c_yX5_hasMoved q_i_X5 q_m_X5_81 rfl rfl dd_yX5_hasMoved ⟨Nat.le_of_ble_eq_true rfl, Nat.le_of_ble_eq_true rfl⟩) q_i_yX5_hasMoved q_x_yX5_hasMoved (s_recv hK (hJ.1 σ1) (by decide) o_Model rfl) rfl (Nat.le_of_ble_eq_true rfl) dX5_cellsOfRow_15 ⟨Nat.zero_le _, Nat.zero_le _⟩ (fun r4 hr4 => ?_)
  refine s_jp_I 26 (fun x6 => [(0, .ref (b + 0))]) (fun x6 => [vI x6, vI r3]) (fun x6 hx6 => ?_) (fun j5 hj5 => ?_)
  · refine s_iadd hC dX5_cellsOfRow_26 ?_
    refine s_ck0 (fun v7 hv7 => ?_)
    refine s_istore_n (L' := [(2, vI v7), (0, .ref (b + 0))]) hC dX5_cellsOfRow_27 rfl (by decide) rfl ?_
    refine s_iconst hC dX5_cellsOfRow_28 ?_
    refine s_istore_n (L' := [(3, vI 0), (2, vI v7), (0, .ref (b + 0))]) hC dX5_cellsOfRow_29 rfl (by decide) rfl ?_
    refine s_sub (L' := [(0, .ref (b + 0)), (2, vI v7), (3, vI 0)]) [2, 1, 0] rfl ?_
    refine s_lp_II (F := f_X5_cellsOfRow_L30 σ1) 30 (fun x8 x9 => [(0, .ref (b + 0)), (2, vI x8), (3, vI x9)]) (fun _ _ => rfl) (fun n ih30 x8 x9 hx8 hx9 => ?_) fu v7 0 hv7 (inR_c _ rfl)
    rw [f_X5_cellsOfRow_L30]
    refine s_iload_n hC dX5_cellsOfRow_30 rfl 2 rfl ?_
    refine s_aload_n hC dX5_cellsOfRow_31 rfl 0 rfl ?_
    refine s_get (b := b) hC hK (hJ.1 σ1) (by decide) o_Model rfl q_w_X5 12 (by decide) q_f_X5_65 rfl dX5_cellsOfRow_32 ?_
    refine s_icmp_ge (tgt := 65) hC dX5_cellsOfRow_35 (by decide) hx9 (hσ1 0 12) ?_ ?_
    · refine s_sub (L' := [(2, vI x8)]) [1] rfl ?_
      refine s_iload_n hC dX5_cellsOfRow_65 rfl 0 rfl ?_
      exact s_iret hC hr dX5_cellsOfRow_66 (fun H hH => ⟨rfl, hx8, hσ1, hH⟩)
    · refine s_iload_n hC dX5_cellsOfRow_38 rfl 1 rfl ?_
      refine s_aload_n hC dX5_cellsOfRow_39 rfl 0 rfl ?_
      refine s_get (b := b) hC hK (hJ.1 σ1) (by decide) o_Model rfl q_w_X5 0 (by decide) q_f_X5_7 rfl dX5_cellsOfRow_40 ?_
      refine s_sipush hC dX5_cellsOfRow_43 (by decide) ?_
      refine s_aload_n hC dX5_cellsOfRow_46 rfl 0 rfl ?_
      refine s_get (b := b) hC hK (hJ.1 σ1) (by decide) o_Model rfl q_w_X5 11 (by decide) q_f_X5_34 rfl dX5_cellsOfRow_47 ?_
      refine s_iload_n hC dX5_cellsOfRow_50 rfl 2 rfl ?_
      refine s_iaload hC hK (hJ.1 σ1) hσ1 (by decide) a_Model_9 dX5_cellsOfRow_51 (fun v10 hv10 => ?_)
      refine s_iadd hC dX5_cellsOfRow_52 ?_
      refine s_iaload hC hK (hJ.1 σ1) hσ1 (by decide) a_Model_1 dX5_cellsOfRow_53 (fun v11 hv11 => ?_)
      refine s_callS_P (As := [vI v11]) (rest := [vI x8]) hC hKA 1 (m_X5_cellsOf (I := J σ1) hv11) rfl (cb_of hC 1 q_c_yX5_cellsOf q_i_X5 q_m_X5_52 rfl rfl dd_yX5_cellsOf ⟨Nat.le_of_ble_eq_true rfl, Nat.le_of_ble_eq_true rfl⟩) q_s_yX5_cellsOf rfl (Nat.le_of_ble_eq_true rfl) dX5_cellsOfRow_54 ⟨Nat.zero_le _, Nat.zero_le _⟩ (fun r12 hr12 => ?_)
      refine s_iadd hC dX5_cellsOfRow_57 ?_
      refine s_ck0 (fun v13 hv13 => ?_)
      refine s_istore_n (L' := [(2, vI v13), (0, .ref (b + 0)), (3, vI x9)]) hC dX5_cellsOfRow_58 rfl (by decide) rfl ?_
      refine s_iincK hC dX5_cellsOfRow_59 2 rfl (by decide) (fun v14 => [(3, vI v14), (2, vI v13), (0, .ref (b + 0))]) (fun _ => rfl) (fun v14 hv14 => ?_)
      refine s_goto (tgt := 30) hC dX5_cellsOfRow_62 (by decide) ?_
      refine s_sub (L' := [(0, .ref (b + 0)), (2, vI v13), (3, vI v14)]) [2, 1, 0] rfl ?_
      exact ih30 v13 v14 hv13 hv14
  · refine s_if_eq (tgt := 25) hC dX5_cellsOfRow_18 (by decide) hr4 ?_ ?_
    · refine s_sub (L' := [(0, .ref (b + 0))]) [0] rfl ?_
      refine s_iconst hC dX5_cellsOfRow_25 ?_
      exact hj5 0 (inR_c _ rfl)
    · refine s_sub (L' := [(0, .ref (b + 0))]) [0] rfl ?_
      refine s_iconst hC dX5_cellsOfRow_21 ?_
      refine s_goto (tgt := 26) hC dX5_cellsOfRow_22 (by decide) ?_
      exact hj5 1 (inR_c _ rfl)
set_option maxHeartbeats 4000000 in
set_option maxRecDepth 100000 in
theorem m_X5_takeText {l : Launch} {G : Gt} {b : Nat} {σ : Blk} {J : Blk → Heap → Prop} (hJ : Wd G (layModel G b) 10 b J) (hσ : Rg σ) {a1 : Int} (h1 : inR a1) : MetS l yX5_takeText cX5_takeText 3 none { frames := 2, cells := 0, slots := 0, locals := 44 } G [.ref (b + 0), vI a1] (J σ) (poU J) (Ab b 10) 0 0 (f_X5_takeText σ a1) := by
  refine met_of (by decide) (Nat.le_of_ble_eq_true rfl) ?_
  intro p e s m below meth c hC hKA hr _
  have hK := hKA.1
  unfold f_X5_takeText
  refine s_sub (L' := [(0, .ref (b + 0)), (1, vI a1)]) [0, 1] rfl ?_
  refine s_aload_n hC dX5_takeText_0 rfl 0 rfl ?_
  refine s_aload_n hC dX5_takeText_1 rfl 0 rfl ?_
  refine s_iload_n hC dX5_takeText_2 rfl 1 rfl ?_
  refine s_iconst hC dX5_takeText_3 ?_
  refine s_callV_P (As := [vI a1, vI 2]) (rest := [.ref (b + 0)]) (a := b + 0) hC hKA 2 (m_X5_part (hJ.1 σ) hσ h1 (inR_c _ rfl)) rfl (cb_of hC 2 q_c_yX5_part q_i_X5 q_m_X5_61 rfl rfl dd_yX5_part ⟨Nat.le_of_ble_eq_true rfl, Nat.le_of_ble_eq_true rfl⟩) q_i_yX5_part q_x_yX5_part (s_recv hK (hJ.1 σ) (by decide) o_Model rfl) rfl (Nat.le_of_ble_eq_true rfl) dX5_takeText_4 ⟨Nat.zero_le _, Nat.zero_le _⟩ (fun r1 hr1 => ?_)
  refine s_putP (ty := .int) hC hK hJ (fun _ h => h) hσ hr1 (by decide) o_Model rfl q_w_X5 tyX5_ok nmX5 10 (by decide) q_f_X5_85 rfl (by decide +kernel) rfl rfl (fun _ => Nat.le_of_ble_eq_true rfl) u_Model_10 dX5_takeText_7 (fun σ2 hσ2 => ?_)
  refine s_iconst hC dX5_takeText_10 ?_
  refine s_istore_n (L' := [(2, vI 0), (0, .ref (b + 0)), (1, vI a1)]) hC dX5_takeText_11 rfl (by decide) rfl ?_
  refine s_sub (L' := [(0, .ref (b + 0)), (1, vI a1), (2, vI 0)]) [1, 2, 0] rfl ?_
  refine s_lp_IB (J := J) (F := f_X5_takeText_L12 a1) 12 (fun x3 => [(0, .ref (b + 0)), (1, vI a1), (2, vI x3)]) (fun _ _ => rfl) (fun n ih12 x3 σ4 hx3 hσ4 => ?_) fu 0 σ2 (inR_c _ rfl) hσ2
  rw [f_X5_takeText_L12]
  refine s_iload_n hC dX5_takeText_12 rfl 2 rfl ?_
  refine s_aload_n hC dX5_takeText_13 rfl 0 rfl ?_
  refine s_get (b := b) hC hK (hJ.1 σ4) (by decide) o_Model rfl q_w_X5 10 (by decide) q_f_X5_85 rfl dX5_takeText_14 ?_
  refine s_icmp_ge (tgt := 38) hC dX5_takeText_17 (by decide) hx3 (hσ4 0 10) ?_ ?_
  · refine s_sub (L' := []) [] rfl ?_
    exact s_vret hC hr dX5_takeText_38 (fun H hH => ⟨rfl, hσ4, hH⟩)
  · refine s_aload_n hC dX5_takeText_20 rfl 0 rfl ?_
    refine s_get (b := b) hC hK (hJ.1 σ4) (by decide) o_Model rfl q_w_X5 9 (by decide) q_f_X5_31 rfl dX5_takeText_21 ?_
    refine s_iload_n hC dX5_takeText_24 rfl 2 rfl ?_
    refine s_aload_n hC dX5_takeText_25 rfl 0 rfl ?_
    refine s_iload_n hC dX5_takeText_26 rfl 1 rfl ?_
    refine s_iload_n hC dX5_takeText_27 rfl 2 rfl ?_
    refine s_callV_P (As := [vI a1, vI x3]) (rest := [vI x3, .ref (b + 8)]) (a := b + 0) hC hKA 2 (m_X5_letterAt (hJ.1 σ4) hσ4 h1 hx3) rfl (cb_of hC 2 q_c_yX5_letterAt q_i_X5 q_m_X5_88 rfl rfl dd_yX5_letterAt ⟨Nat.le_of_ble_eq_true rfl, Nat.le_of_ble_eq_true rfl⟩) q_i_yX5_letterAt q_x_yX5_letterAt (s_recv hK (hJ.1 σ4) (by decide) o_Model rfl) rfl (Nat.le_of_ble_eq_true rfl) dX5_takeText_28 ⟨Nat.zero_le _, Nat.zero_le _⟩ (fun r5 hr5 => ?_)
    refine s_iastore hC hK hJ (fun _ h => h) hσ4 hr5 (by decide) a_Model_8 dX5_takeText_31 (fun σ6 hσ6 => ?_)
    refine s_iincK hC dX5_takeText_32 2 rfl (by decide) (fun v7 => [(2, vI v7), (0, .ref (b + 0)), (1, vI a1)]) (fun _ => rfl) (fun v7 hv7 => ?_)
    refine s_goto (tgt := 12) hC dX5_takeText_35 (by decide) ?_
    refine s_sub (L' := [(0, .ref (b + 0)), (1, vI a1), (2, vI v7)]) [1, 2, 0] rfl ?_
    exact ih12 v7 σ6 hv7 hσ6
set_option maxHeartbeats 4000000 in
set_option maxRecDepth 100000 in
theorem m_X5_headLetters {l : Launch} {G : Gt} {b : Nat} {σ : Blk} {I : Heap → Prop} (hI : ∀ H, I H → Bk G (layModel G b) 10 b σ H) (hσ : Rg σ)  : MetS l yX5_headLetters cX5_headLetters 1 (some .int) { frames := 0, cells := 0, slots := 0, locals := 0 } G [.ref (b + 0)] I (poP I) (fun _ => False) 0 0 (f_X5_headLetters σ) := by
  refine met_of (by decide) (Nat.le_of_ble_eq_true rfl) ?_
  intro p e s m below meth c hC hKA hr _
  have hK := hKA.1
  unfold f_X5_headLetters
  refine s_sub (L' := [(0, .ref (b + 0))]) [0] rfl ?_
  refine s_aload_n hC dX5_headLetters_0 rfl 0 rfl ?_
  refine s_get (b := b) hC hK hI (by decide) o_Model rfl q_w_X5 10 (by decide) q_f_X5_85 rfl dX5_headLetters_1 ?_
  refine s_aload_n hC dX5_headLetters_4 rfl 0 rfl ?_
  refine s_get (b := b) hC hK hI (by decide) o_Model rfl q_w_X5 0 (by decide) q_f_X5_7 rfl dX5_headLetters_5 ?_
  refine s_iconst hC dX5_headLetters_8 ?_
  refine s_iaload hC hK hI hσ (by decide) a_Model_1 dX5_headLetters_9 (fun v1 hv1 => ?_)
  refine s_icmp_ge (tgt := 20) hC dX5_headLetters_10 (by decide) (hσ 0 10) hv1 ?_ ?_
  · refine s_aload_n hC dX5_headLetters_20 rfl 0 rfl ?_
    refine s_get (b := b) hC hK hI (by decide) o_Model rfl q_w_X5 0 (by decide) q_f_X5_7 rfl dX5_headLetters_21 ?_
    refine s_iconst hC dX5_headLetters_24 ?_
    refine s_iaload hC hK hI hσ (by decide) a_Model_1 dX5_headLetters_25 (fun v2 hv2 => ?_)
    refine s_sub (L' := []) [] rfl ?_
    exact s_iret hC hr dX5_headLetters_26 (fun H hH => ⟨rfl, hv2, hH⟩)
  · refine s_aload_n hC dX5_headLetters_13 rfl 0 rfl ?_
    refine s_get (b := b) hC hK hI (by decide) o_Model rfl q_w_X5 10 (by decide) q_f_X5_85 rfl dX5_headLetters_14 ?_
    refine s_goto (tgt := 26) hC dX5_headLetters_17 (by decide) ?_
    refine s_sub (L' := []) [] rfl ?_
    exact s_iret hC hr dX5_headLetters_26 (fun H hH => ⟨rfl, (hσ 0 10), hH⟩)
set_option maxHeartbeats 4000000 in
set_option maxRecDepth 100000 in
theorem m_X5_setText {l : Launch} {G : Gt} {b : Nat} {σ : Blk} {J : Blk → Heap → Prop} (hJ : Wd G (layModel G b) 10 b J) (hσ : Rg σ) {a1 : Int} (h1 : inR a1) : MetS l yX5_setText cX5_setText 3 none { frames := 1, cells := 0, slots := 0, locals := 23 } G [.ref (b + 0), vI a1] (J σ) (poU J) (Ab b 10) 0 0 (f_X5_setText σ a1) := by
  refine met_of (by decide) (Nat.le_of_ble_eq_true rfl) ?_
  intro p e s m below meth c hC hKA hr _
  have hK := hKA.1
  unfold f_X5_setText
  refine s_sub (L' := [(0, .ref (b + 0)), (1, vI a1)]) [0, 1] rfl ?_
  refine s_aload_n hC dX5_setText_0 rfl 0 rfl ?_
  refine s_iload_n hC dX5_setText_1 rfl 1 rfl ?_
  refine s_iconst hC dX5_setText_2 ?_
  refine s_aload_n hC dX5_setText_3 rfl 0 rfl ?_
  refine s_get (b := b) hC hK (hJ.1 σ) (by decide) o_Model rfl q_w_X5 10 (by decide) q_f_X5_85 rfl dX5_setText_4 ?_
  refine s_callV_U (As := [vI a1, vI 2, vI (σ 0 10)]) (rest := []) (a := b + 0) hC hKA 3 (m_X5_setPart hJ hσ h1 (inR_c _ rfl) (hσ 0 10)) (fun _ h => h) rfl (cb_of hC 3 q_c_yX5_setPart q_i_X5 q_m_X5_91 rfl rfl dd_yX5_setPart ⟨Nat.le_of_ble_eq_true rfl, Nat.le_of_ble_eq_true rfl⟩) q_i_yX5_setPart q_x_yX5_setPart (s_recv hK (hJ.1 σ) (by decide) o_Model rfl) rfl (Nat.le_of_ble_eq_true rfl) dX5_setText_7 ⟨Nat.zero_le _, Nat.zero_le _⟩ (fun σ1 hσ1 => ?_)
  refine s_iconst hC dX5_setText_10 ?_
  refine s_istore_n (L' := [(2, vI 0), (0, .ref (b + 0)), (1, vI a1)]) hC dX5_setText_11 rfl (by decide) rfl ?_
  refine s_sub (L' := [(0, .ref (b + 0)), (1, vI a1), (2, vI 0)]) [1, 2, 0] rfl ?_
  refine s_jp_B (J := J) 33 ([(0, .ref (b + 0)), (1, vI a1)]) ([]) (fun σ3 hσ3 => ?_) (fun j2 hj2 => ?_)
  · refine s_iconst hC dX5_setText_33 ?_
    refine s_istore_n (L' := [(2, vI 0), (0, .ref (b + 0)), (1, vI a1)]) hC dX5_setText_34 rfl (by decide) rfl ?_
    refine s_sub (L' := [(0, .ref (b + 0)), (1, vI a1), (2, vI 0)]) [1, 2, 0] rfl ?_
    refine s_lp_IB (J := J) (F := f_X5_setText_L35 a1) 35 (fun x4 => [(0, .ref (b + 0)), (1, vI a1), (2, vI x4)]) (fun _ _ => rfl) (fun n ih35 x4 σ5 hx4 hσ5 => ?_) fu 0 σ3 (inR_c _ rfl) hσ3
    rw [f_X5_setText_L35]
    refine s_iload_n hC dX5_setText_35 rfl 2 rfl ?_
    refine s_aload_n hC dX5_setText_36 rfl 0 rfl ?_
    refine s_get (b := b) hC hK (hJ.1 σ5) (by decide) o_Model rfl q_w_X5 10 (by decide) q_f_X5_85 rfl dX5_setText_37 ?_
    refine s_icmp_ge (tgt := 85) hC dX5_setText_40 (by decide) hx4 (hσ5 0 10) ?_ ?_
    · refine s_sub (L' := []) [] rfl ?_
      exact s_vret hC hr dX5_setText_85 (fun H hH => ⟨rfl, hσ5, hH⟩)
    · refine s_aload_n hC dX5_setText_43 rfl 0 rfl ?_
      refine s_iload_n hC dX5_setText_44 rfl 1 rfl ?_
      refine s_iconst hC dX5_setText_45 ?_
      refine s_iload_n hC dX5_setText_46 rfl 2 rfl ?_
      refine s_bipush hC dX5_setText_47 (by decide) ?_
      refine s_idiv hC dX5_setText_49 hx4 (inR_c _ rfl) (by decide) (fun v6 hv6 => ?_)
      refine s_iadd hC dX5_setText_50 ?_
      refine s_aload_n hC dX5_setText_51 rfl 0 rfl ?_
      refine s_iload_n hC dX5_setText_52 rfl 1 rfl ?_
      refine s_iconst hC dX5_setText_53 ?_
      refine s_iload_n hC dX5_setText_54 rfl 2 rfl ?_
      refine s_bipush hC dX5_setText_55 (by decide) ?_
      refine s_idiv hC dX5_setText_57 hx4 (inR_c _ rfl) (by decide) (fun v7 hv7 => ?_)
      refine s_iadd hC dX5_setText_58 ?_
      refine s_ck0 (fun v8 hv8 => ?_)
      refine s_callV_P (As := [vI a1, vI v8]) (rest := [vI (5 + v6), vI a1, .ref (b + 0)]) (a := b + 0) hC hKA 2 (m_X5_part (hJ.1 σ5) hσ5 h1 hv8) rfl (cb_of hC 2 q_c_yX5_part q_i_X5 q_m_X5_61 rfl rfl dd_yX5_part ⟨Nat.le_of_ble_eq_true rfl, Nat.le_of_ble_eq_true rfl⟩) q_i_yX5_part q_x_yX5_part (s_recv hK (hJ.1 σ5) (by decide) o_Model rfl) rfl (Nat.le_of_ble_eq_true rfl) dX5_setText_59 ⟨Nat.zero_le _, Nat.zero_le _⟩ (fun r9 hr9 => ?_)
      refine s_aload_n hC dX5_setText_62 rfl 0 rfl ?_
      refine s_get (b := b) hC hK (hJ.1 σ5) (by decide) o_Model rfl q_w_X5 9 (by decide) q_f_X5_31 rfl dX5_setText_63 ?_
      refine s_iload_n hC dX5_setText_66 rfl 2 rfl ?_
      refine s_iaload hC hK (hJ.1 σ5) hσ5 (by decide) a_Model_8 dX5_setText_67 (fun v10 hv10 => ?_)
      refine s_iconst hC dX5_setText_68 ?_
      refine s_iload_n hC dX5_setText_69 rfl 2 rfl ?_
      refine s_bipush hC dX5_setText_70 (by decide) ?_
      refine s_irem hC dX5_setText_72 hx4 (inR_c _ rfl) (by decide) (fun v11 hv11 => ?_)
      refine s_imul hC dX5_setText_73 ?_
      refine s_ishl hC dX5_setText_74 ?_
      refine s_ior hC dX5_setText_75 ?_
      refine s_ck1 (fun v12 hv12 => ?_)
      refine s_callV_U (As := [vI a1, vI v12, vI (iorr r9 (ishl v10 (5 * v11)))]) (rest := []) (a := b + 0) hC hKA 3 (m_X5_setPart hJ hσ5 h1 hv12 (i32_in _)) (fun _ h => h) rfl (cb_of hC 3 q_c_yX5_setPart q_i_X5 q_m_X5_91 rfl rfl dd_yX5_setPart ⟨Nat.le_of_ble_eq_true rfl, Nat.le_of_ble_eq_true rfl⟩) q_i_yX5_setPart q_x_yX5_setPart (s_recv hK (hJ.1 σ5) (by decide) o_Model rfl) rfl (Nat.le_of_ble_eq_true rfl) dX5_setText_76 ⟨Nat.zero_le _, Nat.zero_le _⟩ (fun σ13 hσ13 => ?_)
      refine s_iincK hC dX5_setText_79 2 rfl (by decide) (fun v14 => [(2, vI v14), (0, .ref (b + 0)), (1, vI a1)]) (fun _ => rfl) (fun v14 hv14 => ?_)
      refine s_goto (tgt := 35) hC dX5_setText_82 (by decide) ?_
      refine s_sub (L' := [(0, .ref (b + 0)), (1, vI a1), (2, vI v14)]) [1, 2, 0] rfl ?_
      exact ih35 v14 σ13 hv14 hσ13
  · refine s_lp_IB (J := J) (F := f_X5_setText_L12 a1 j2) 12 (fun x15 => [(0, .ref (b + 0)), (1, vI a1), (2, vI x15)]) (fun _ _ => rfl) (fun n ih12 x15 σ16 hx15 hσ16 => ?_) fu 0 σ1 (inR_c _ rfl) hσ1
    rw [f_X5_setText_L12]
    refine s_iload_n hC dX5_setText_12 rfl 2 rfl ?_
    refine s_bipush hC dX5_setText_13 (by decide) ?_
    refine s_icmp_ge (tgt := 33) hC dX5_setText_15 (by decide) hx15 (inR_c _ rfl) ?_ ?_
    · refine s_sub (L' := [(0, .ref (b + 0)), (1, vI a1)]) [0, 1] rfl ?_
      exact hj2 σ16 hσ16
    · refine s_aload_n hC dX5_setText_18 rfl 0 rfl ?_
      refine s_iload_n hC dX5_setText_19 rfl 1 rfl ?_
      refine s_iconst hC dX5_setText_20 ?_
      refine s_iload_n hC dX5_setText_21 rfl 2 rfl ?_
      refine s_iadd hC dX5_setText_22 ?_
      refine s_iconst hC dX5_setText_23 ?_
      refine s_ck1 (fun v17 hv17 => ?_)
      refine s_callV_U (As := [vI a1, vI v17, vI 0]) (rest := []) (a := b + 0) hC hKA 3 (m_X5_setPart hJ hσ16 h1 hv17 (inR_c _ rfl)) (fun _ h => h) rfl (cb_of hC 3 q_c_yX5_setPart q_i_X5 q_m_X5_91 rfl rfl dd_yX5_setPart ⟨Nat.le_of_ble_eq_true rfl, Nat.le_of_ble_eq_true rfl⟩) q_i_yX5_setPart q_x_yX5_setPart (s_recv hK (hJ.1 σ16) (by decide) o_Model rfl) rfl (Nat.le_of_ble_eq_true rfl) dX5_setText_24 ⟨Nat.zero_le _, Nat.zero_le _⟩ (fun σ18 hσ18 => ?_)
      refine s_iincK hC dX5_setText_27 2 rfl (by decide) (fun v19 => [(2, vI v19), (0, .ref (b + 0)), (1, vI a1)]) (fun _ => rfl) (fun v19 hv19 => ?_)
      refine s_goto (tgt := 12) hC dX5_setText_30 (by decide) ?_
      refine s_sub (L' := [(0, .ref (b + 0)), (1, vI a1), (2, vI v19)]) [1, 2, 0] rfl ?_
      exact ih12 v19 σ18 hv19 hσ18
set_option maxHeartbeats 4000000 in
set_option maxRecDepth 100000 in
theorem m_X5_putPieces {l : Launch} {G : Gt} {b : Nat} {σ : Blk} {J : Blk → Heap → Prop} (hJ : Wd G (layModel G b) 10 b J) (hσ : Rg σ) {a1 : Int} (h1 : inR a1) : MetS l yX5_putPieces cX5_putPieces 5 (some .boolean) { frames := 4, cells := 0, slots := 0, locals := 86 } G [.ref (b + 0), vI a1] (J σ) (poW J) (Ab b 10) 0 0 (f_X5_putPieces σ a1) := by
  refine met_of (by decide) (Nat.le_of_ble_eq_true rfl) ?_
  intro p e s m below meth c hC hKA hr _
  have hK := hKA.1
  unfold f_X5_putPieces
  refine s_sub (L' := [(0, .ref (b + 0)), (1, vI a1)]) [0, 1] rfl ?_
  refine s_aload_n hC dX5_putPieces_0 rfl 0 rfl ?_
  refine s_callV_P (As := []) (rest := []) (a := b + 0) hC hKA 0 (m_X5_headLetters (hJ.1 σ) hσ) rfl (cb_of hC 0 q_c_yX5_headLetters q_i_X5 q_m_X5_95 rfl rfl dd_yX5_headLetters ⟨Nat.le_of_ble_eq_true rfl, Nat.le_of_ble_eq_true rfl⟩) q_i_yX5_headLetters q_x_yX5_headLetters (s_recv hK (hJ.1 σ) (by decide) o_Model rfl) rfl (Nat.le_of_ble_eq_true rfl) dX5_putPieces_1 ⟨Nat.zero_le _, Nat.zero_le _⟩ (fun r1 hr1 => ?_)
  refine s_istore_n (L' := [(2, vI r1), (0, .ref (b + 0)), (1, vI a1)]) hC dX5_putPieces_4 rfl (by decide) rfl ?_
  refine s_iconst hC dX5_putPieces_5 ?_
  refine s_istore_n (L' := [(3, vI 0), (2, vI r1), (0, .ref (b + 0)), (1, vI a1)]) hC dX5_putPieces_6 rfl (by decide) rfl ?_
  refine s_sub (L' := [(0, .ref (b + 0)), (1, vI a1), (2, vI r1), (3, vI 0)]) [2, 3, 1, 0] rfl ?_
  refine s_lp_IIB (J := J) (F := f_X5_putPieces_L7 a1) 7 (fun x2 x3 => [(0, .ref (b + 0)), (1, vI a1), (2, vI x2), (3, vI x3)]) (fun _ _ _ => rfl) (fun n ih7 x2 x3 σ4 hx2 hx3 hσ4 => ?_) fu r1 0 σ hr1 (inR_c _ rfl) hσ
  rw [f_X5_putPieces_L7]
  refine s_iload_n hC dX5_putPieces_7 rfl 2 rfl ?_
  refine s_aload_n hC dX5_putPieces_8 rfl 0 rfl ?_
  refine s_get (b := b) hC hK (hJ.1 σ4) (by decide) o_Model rfl q_w_X5 10 (by decide) q_f_X5_85 rfl dX5_putPieces_9 ?_
  refine s_icmp_ge (tgt := 77) hC dX5_putPieces_12 (by decide) hx2 (hσ4 0 10) ?_ ?_
  · refine s_sub (L' := []) [] rfl ?_
    refine s_iconst hC dX5_putPieces_77 ?_
    exact s_zret hC hr (Or.inr rfl) dX5_putPieces_78 (fun H hH => ⟨rfl, (inR_c _ rfl), hσ4, hH⟩)
  · refine s_aload_n hC dX5_putPieces_15 rfl 0 rfl ?_
    refine s_get (b := b) hC hK (hJ.1 σ4) (by decide) o_Model rfl q_w_X5 10 (by decide) q_f_X5_85 rfl dX5_putPieces_16 ?_
    refine s_iload_n hC dX5_putPieces_19 rfl 2 rfl ?_
    refine s_isub hC dX5_putPieces_20 ?_
    refine s_aload_n hC dX5_putPieces_21 rfl 0 rfl ?_
    refine s_get (b := b) hC hK (hJ.1 σ4) (by decide) o_Model rfl q_w_X5 0 (by decide) q_f_X5_7 rfl dX5_putPieces_22 ?_
    refine s_iconst hC dX5_putPieces_25 ?_
    refine s_iaload hC hK (hJ.1 σ4) hσ4 (by decide) a_Model_1 dX5_putPieces_26 (fun v5 hv5 => ?_)
    refine s_ck1 (fun v6 hv6 => ?_)
    refine s_jp_I 45 (fun x8 => [(0, .ref (b + 0)), (1, vI a1), (2, vI x2), (3, vI x3)]) (fun x8 => [vI x8]) (fun x8 hx8 => ?_) (fun j7 hj7 => ?_)
    · refine s_istore (L' := [(4, vI x8), (0, .ref (b + 0)), (1, vI a1), (2, vI x2), (3, vI x3)]) hC dX5_putPieces_45 (by decide) rfl ?_
      refine s_aload_n hC dX5_putPieces_47 rfl 1 rfl ?_
      refine s_iconst hC dX5_putPieces_48 ?_
      refine s_iload_n hC dX5_putPieces_49 rfl 2 rfl ?_
      refine s_iload_n hC dX5_putPieces_50 rfl 4 rfl ?_
      refine s_iload hC dX5_putPieces_51 0 rfl ?_
      refine s_callS_P (As := [vI 2, vI a1, vI x3, vI x8]) (rest := [.ref (b + 0)]) hC hKA 4 (m_X5_thing (I := J σ4) (inR_c _ rfl) h1 hx3 hx8) rfl (cb_of hC 4 q_c_yX5_thing q_i_X5 q_m_X5_99 rfl rfl dd_yX5_thing ⟨Nat.le_of_ble_eq_true rfl, Nat.le_of_ble_eq_true rfl⟩) q_s_yX5_thing rfl (Nat.le_of_ble_eq_true rfl) dX5_putPieces_53 ⟨Nat.zero_le _, Nat.zero_le _⟩ (fun r9 hr9 => ?_)
      refine s_callV_W (As := [vI r9]) (rest := []) (a := b + 0) hC hKA 1 (m_X5_placed hJ hσ4 hr9) (fun _ h => h) rfl (cb_of hC 1 q_c_yX5_placed q_i_X5 q_m_X5_103 rfl rfl dd_yX5_placed ⟨Nat.le_of_ble_eq_true rfl, Nat.le_of_ble_eq_true rfl⟩) q_i_yX5_placed q_x_yX5_placed (s_recv hK (hJ.1 σ4) (by decide) o_Model rfl) rfl (Nat.le_of_ble_eq_true rfl) dX5_putPieces_56 ⟨Nat.zero_le _, Nat.zero_le _⟩ (fun r10 σ11 hr10 hσ11 => ?_)
      refine s_bipush hC dX5_putPieces_59 (by decide) ?_
      refine s_icmp_ne (tgt := 66) hC dX5_putPieces_61 (by decide) hr10 (inR_c _ rfl) ?_ ?_
      · refine s_sub (L' := [(0, .ref (b + 0)), (1, vI a1), (2, vI x2), (3, vI x3), (4, vI x8)]) [1, 2, 3, 4, 0] rfl ?_
        refine s_iload_n hC dX5_putPieces_66 rfl 2 rfl ?_
        refine s_iload hC dX5_putPieces_67 4 rfl ?_
        refine s_iadd hC dX5_putPieces_69 ?_
        refine s_ck0 (fun v12 hv12 => ?_)
        refine s_istore_n (L' := [(2, vI v12), (0, .ref (b + 0)), (1, vI a1), (3, vI x3), (4, vI x8)]) hC dX5_putPieces_70 rfl (by decide) rfl ?_
        refine s_iincK hC dX5_putPieces_71 3 rfl (by decide) (fun v13 => [(3, vI v13), (2, vI v12), (0, .ref (b + 0)), (1, vI a1), (4, vI x8)]) (fun _ => rfl) (fun v13 hv13 => ?_)
        refine s_goto (tgt := 7) hC dX5_putPieces_74 (by decide) ?_
        refine s_sub (L' := [(0, .ref (b + 0)), (1, vI a1), (2, vI v12), (3, vI v13)]) [2, 3, 1, 0] rfl ?_
        exact ih7 v12 v13 σ11 hv12 hv13 hσ11
      · refine s_sub (L' := []) [] rfl ?_
        refine s_iconst hC dX5_putPieces_64 ?_
        exact s_zret hC hr (Or.inl rfl) dX5_putPieces_65 (fun H hH => ⟨rfl, (inR_c _ rfl), hσ11, hH⟩)
    · refine s_icmp_ge (tgt := 39) hC dX5_putPieces_27 (by decide) hv6 hv5 ?_ ?_
      · refine s_aload_n hC dX5_putPieces_39 rfl 0 rfl ?_
        refine s_get (b := b) hC hK (hJ.1 σ4) (by decide) o_Model rfl q_w_X5 0 (by decide) q_f_X5_7 rfl dX5_putPieces_40 ?_
        refine s_iconst hC dX5_putPieces_43 ?_
        refine s_iaload hC hK (hJ.1 σ4) hσ4 (by decide) a_Model_1 dX5_putPieces_44 (fun v14 hv14 => ?_)
        exact hj7 v14 hv14
      · refine s_aload_n hC dX5_putPieces_30 rfl 0 rfl ?_
        refine s_get (b := b) hC hK (hJ.1 σ4) (by decide) o_Model rfl q_w_X5 10 (by decide) q_f_X5_85 rfl dX5_putPieces_31 ?_
        refine s_iload_n hC dX5_putPieces_34 rfl 2 rfl ?_
        refine s_isub hC dX5_putPieces_35 ?_
        refine s_goto (tgt := 45) hC dX5_putPieces_36 (by decide) ?_
        refine s_ck0 (fun v15 hv15 => ?_)
        exact hj7 v15 hv15
set_option maxHeartbeats 4000000 in
set_option maxRecDepth 100000 in
theorem m_X5_writeNew {l : Launch} {G : Gt} {b : Nat} {σ : Blk} {J : Blk → Heap → Prop} (hJ : Wd G (layModel G b) 10 b J) (hσ : Rg σ) {a1 : Int} (h1 : inR a1) : MetS l yX5_writeNew cX5_writeNew 3 (some .boolean) { frames := 5, cells := 0, slots := 0, locals := 110 } G [.ref (b + 0), vI a1] (J σ) (poW J) (Ab b 10) 0 0 (f_X5_writeNew σ a1) := by
  refine met_of (by decide) (Nat.le_of_ble_eq_true rfl) ?_
  intro p e s m below meth c hC hKA hr _
  have hK := hKA.1
  unfold f_X5_writeNew
  refine s_sub (L' := [(0, .ref (b + 0)), (1, vI a1)]) [0, 1] rfl ?_
  refine s_aload_n hC dX5_writeNew_0 rfl 0 rfl ?_
  refine s_iconst hC dX5_writeNew_1 ?_
  refine s_iload_n hC dX5_writeNew_2 rfl 1 rfl ?_
  refine s_iconst hC dX5_writeNew_3 ?_
  refine s_aload_n hC dX5_writeNew_4 rfl 0 rfl ?_
  refine s_callV_P (As := []) (rest := [vI 0, vI a1, vI 1, .ref (b + 0)]) (a := b + 0) hC hKA 0 (m_X5_headLetters (hJ.1 σ) hσ) rfl (cb_of hC 0 q_c_yX5_headLetters q_i_X5 q_m_X5_95 rfl rfl dd_yX5_headLetters ⟨Nat.le_of_ble_eq_true rfl, Nat.le_of_ble_eq_true rfl⟩) q_i_yX5_headLetters q_x_yX5_headLetters (s_recv hK (hJ.1 σ) (by decide) o_Model rfl) rfl (Nat.le_of_ble_eq_true rfl) dX5_writeNew_5 ⟨Nat.zero_le _, Nat.zero_le _⟩ (fun r1 hr1 => ?_)
  refine s_callS_P (As := [vI 1, vI a1, vI 0, vI r1]) (rest := [.ref (b + 0)]) hC hKA 4 (m_X5_thing (I := J σ) (inR_c _ rfl) h1 (inR_c _ rfl) hr1) rfl (cb_of hC 4 q_c_yX5_thing q_i_X5 q_m_X5_99 rfl rfl dd_yX5_thing ⟨Nat.le_of_ble_eq_true rfl, Nat.le_of_ble_eq_true rfl⟩) q_s_yX5_thing rfl (Nat.le_of_ble_eq_true rfl) dX5_writeNew_8 ⟨Nat.zero_le _, Nat.zero_le _⟩ (fun r2 hr2 => ?_)
  refine s_callV_W (As := [vI r2]) (rest := []) (a := b + 0) hC hKA 1 (m_X5_placed hJ hσ hr2) (fun _ h => h) rfl (cb_of hC 1 q_c_yX5_placed q_i_X5 q_m_X5_103 rfl rfl dd_yX5_placed ⟨Nat.le_of_ble_eq_true rfl, Nat.le_of_ble_eq_true rfl⟩) q_i_yX5_placed q_x_yX5_placed (s_recv hK (hJ.1 σ) (by decide) o_Model rfl) rfl (Nat.le_of_ble_eq_true rfl) dX5_writeNew_11 ⟨Nat.zero_le _, Nat.zero_le _⟩ (fun r3 σ4 hr3 hσ4 => ?_)
  refine s_istore_n (L' := [(2, vI r3), (0, .ref (b + 0)), (1, vI a1)]) hC dX5_writeNew_14 rfl (by decide) rfl ?_
  refine s_aload_n hC dX5_writeNew_15 rfl 1 rfl ?_
  refine s_iload_n hC dX5_writeNew_16 rfl 2 rfl ?_
  refine s_iconst hC dX5_writeNew_17 ?_
  refine s_iload_n hC dX5_writeNew_18 rfl 0 rfl ?_
  refine s_callV_U (As := [vI a1, vI 3, vI r3]) (rest := []) (a := b + 0) hC hKA 3 (m_X5_setPart hJ hσ4 h1 (inR_c _ rfl) hr3) (fun _ h => h) rfl (cb_of hC 3 q_c_yX5_setPart q_i_X5 q_m_X5_91 rfl rfl dd_yX5_setPart ⟨Nat.le_of_ble_eq_true rfl, Nat.le_of_ble_eq_true rfl⟩) q_i_yX5_setPart q_x_yX5_setPart (s_recv hK (hJ.1 σ4) (by decide) o_Model rfl) rfl (Nat.le_of_ble_eq_true rfl) dX5_writeNew_19 ⟨Nat.zero_le _, Nat.zero_le _⟩ (fun σ5 hσ5 => ?_)
  refine s_aload_n hC dX5_writeNew_22 rfl 1 rfl ?_
  refine s_iload_n hC dX5_writeNew_23 rfl 2 rfl ?_
  refine s_iconst hC dX5_writeNew_24 ?_
  refine s_iload_n hC dX5_writeNew_25 rfl 0 rfl ?_
  refine s_callV_U (As := [vI a1, vI 4, vI r3]) (rest := []) (a := b + 0) hC hKA 3 (m_X5_setPart hJ hσ5 h1 (inR_c _ rfl) hr3) (fun _ h => h) rfl (cb_of hC 3 q_c_yX5_setPart q_i_X5 q_m_X5_91 rfl rfl dd_yX5_setPart ⟨Nat.le_of_ble_eq_true rfl, Nat.le_of_ble_eq_true rfl⟩) q_i_yX5_setPart q_x_yX5_setPart (s_recv hK (hJ.1 σ5) (by decide) o_Model rfl) rfl (Nat.le_of_ble_eq_true rfl) dX5_writeNew_26 ⟨Nat.zero_le _, Nat.zero_le _⟩ (fun σ6 hσ6 => ?_)
  refine s_aload_n hC dX5_writeNew_29 rfl 1 rfl ?_
  refine s_iload_n hC dX5_writeNew_30 rfl 2 rfl ?_
  refine s_callV_U (As := [vI a1]) (rest := []) (a := b + 0) hC hKA 1 (m_X5_setText hJ hσ6 h1) (fun _ h => h) rfl (cb_of hC 1 q_c_yX5_setText q_i_X5 q_m_X5_106 rfl rfl dd_yX5_setText ⟨Nat.le_of_ble_eq_true rfl, Nat.le_of_ble_eq_true rfl⟩) q_i_yX5_setText q_x_yX5_setText (s_recv hK (hJ.1 σ6) (by decide) o_Model rfl) rfl (Nat.le_of_ble_eq_true rfl) dX5_writeNew_31 ⟨Nat.zero_le _, Nat.zero_le _⟩ (fun σ7 hσ7 => ?_)
  refine s_iload_n hC dX5_writeNew_34 rfl 0 rfl ?_
  refine s_bipush hC dX5_writeNew_35 (by decide) ?_
  refine s_icmp_eq (tgt := 52) hC dX5_writeNew_37 (by decide) hr3 (inR_c _ rfl) ?_ ?_
  · refine s_sub (L' := []) [] rfl ?_
    refine s_iconst hC dX5_writeNew_52 ?_
    exact s_zret hC hr (Or.inl rfl) dX5_writeNew_53 (fun H hH => ⟨rfl, (inR_c _ rfl), hσ7, hH⟩)
  · refine s_sub (L' := [(0, .ref (b + 0)), (1, vI a1)]) [1, 2] rfl ?_
    refine s_aload_n hC dX5_writeNew_40 rfl 0 rfl ?_
    refine s_iload_n hC dX5_writeNew_41 rfl 1 rfl ?_
    refine s_callV_W (As := [vI a1]) (rest := []) (a := b + 0) hC hKA 1 (m_X5_putPieces hJ hσ7 h1) (fun _ h => h) rfl (cb_of hC 1 q_c_yX5_putPieces q_i_X5 q_m_X5_109 rfl rfl dd_yX5_putPieces ⟨Nat.le_of_ble_eq_true rfl, Nat.le_of_ble_eq_true rfl⟩) q_i_yX5_putPieces q_x_yX5_putPieces (s_recv hK (hJ.1 σ7) (by decide) o_Model rfl) rfl (Nat.le_of_ble_eq_true rfl) dX5_writeNew_42 ⟨Nat.zero_le _, Nat.zero_le _⟩ (fun r8 σ9 hr8 hσ9 => ?_)
    refine s_if_eq (tgt := 52) hC dX5_writeNew_45 (by decide) hr8 ?_ ?_
    · refine s_sub (L' := []) [] rfl ?_
      refine s_iconst hC dX5_writeNew_52 ?_
      exact s_zret hC hr (Or.inl rfl) dX5_writeNew_53 (fun H hH => ⟨rfl, (inR_c _ rfl), hσ9, hH⟩)
    · refine s_sub (L' := []) [] rfl ?_
      refine s_iconst hC dX5_writeNew_48 ?_
      refine s_goto (tgt := 53) hC dX5_writeNew_49 (by decide) ?_
      exact s_zret hC hr (Or.inr rfl) dX5_writeNew_53 (fun H hH => ⟨rfl, (inR_c _ rfl), hσ9, hH⟩)
set_option maxHeartbeats 4000000 in
set_option maxRecDepth 100000 in
theorem m_X5_placeForHead {l : Launch} {G : Gt} {b : Nat} {σ : Blk} {J : Blk → Heap → Prop} (hJ : Wd G (layModel G b) 10 b J) (hσ : Rg σ) {a1 : Int} (h1 : inR a1) {a2 : Int} (h2 : inR a2) : MetS l yX5_placeForHead cX5_placeForHead 5 (some .int) { frames := 4, cells := 0, slots := 0, locals := 86 } G [.ref (b + 0), vI a1, vI a2] (J σ) (poW J) (Ab b 10) 0 0 (f_X5_placeForHead σ a1 a2) := by
  refine met_of (by decide) (Nat.le_of_ble_eq_true rfl) ?_
  intro p e s m below meth c hC hKA hr _
  have hK := hKA.1
  unfold f_X5_placeForHead
  refine s_sub (L' := [(0, .ref (b + 0)), (1, vI a1), (2, vI a2)]) [0, 1, 2] rfl ?_
  refine s_aload_n hC dX5_placeForHead_0 rfl 0 rfl ?_
  refine s_iload_n hC dX5_placeForHead_1 rfl 1 rfl ?_
  refine s_iconst hC dX5_placeForHead_2 ?_
  refine s_callV_P (As := [vI a1, vI 4]) (rest := []) (a := b + 0) hC hKA 2 (m_X5_part (hJ.1 σ) hσ h1 (inR_c _ rfl)) rfl (cb_of hC 2 q_c_yX5_part q_i_X5 q_m_X5_61 rfl rfl dd_yX5_part ⟨Nat.le_of_ble_eq_true rfl, Nat.le_of_ble_eq_true rfl⟩) q_i_yX5_part q_x_yX5_part (s_recv hK (hJ.1 σ) (by decide) o_Model rfl) rfl (Nat.le_of_ble_eq_true rfl) dX5_placeForHead_3 ⟨Nat.zero_le _, Nat.zero_le _⟩ (fun r1 hr1 => ?_)
  refine s_istore_n (L' := [(3, vI r1), (0, .ref (b + 0)), (1, vI a1), (2, vI a2)]) hC dX5_placeForHead_6 rfl (by decide) rfl ?_
  refine s_aload_n hC dX5_placeForHead_7 rfl 1 rfl ?_
  refine s_iload_n hC dX5_placeForHead_8 rfl 2 rfl ?_
  refine s_iconst hC dX5_placeForHead_9 ?_
  refine s_callV_P (As := [vI a1, vI 3]) (rest := []) (a := b + 0) hC hKA 2 (m_X5_part (hJ.1 σ) hσ h1 (inR_c _ rfl)) rfl (cb_of hC 2 q_c_yX5_part q_i_X5 q_m_X5_61 rfl rfl dd_yX5_part ⟨Nat.le_of_ble_eq_true rfl, Nat.le_of_ble_eq_true rfl⟩) q_i_yX5_part q_x_yX5_part (s_recv hK (hJ.1 σ) (by decide) o_Model rfl) rfl (Nat.le_of_ble_eq_true rfl) dX5_placeForHead_10 ⟨Nat.zero_le _, Nat.zero_le _⟩ (fun r2 hr2 => ?_)
  refine s_istore (L' := [(4, vI r2), (3, vI r1), (0, .ref (b + 0)), (1, vI a1), (2, vI a2)]) hC dX5_placeForHead_13 (by decide) rfl ?_
  refine s_aload_n hC dX5_placeForHead_15 rfl 2 rfl ?_
  refine s_iload_n hC dX5_placeForHead_16 rfl 1 rfl ?_
  refine s_bipush hC dX5_placeForHead_17 (by decide) ?_
  refine s_idiv hC dX5_placeForHead_19 hr1 (inR_c _ rfl) (by decide) (fun v3 hv3 => ?_)
  refine s_callV_P (As := [vI v3]) (rest := []) (a := b + 0) hC hKA 1 (m_X5_freeOf (hJ.1 σ) hσ hv3) rfl (cb_of hC 1 q_c_yX5_freeOf q_i_X5 q_m_X5_55 rfl rfl dd_yX5_freeOf ⟨Nat.le_of_ble_eq_true rfl, Nat.le_of_ble_eq_true rfl⟩) q_i_yX5_freeOf q_x_yX5_freeOf (s_recv hK (hJ.1 σ) (by decide) o_Model rfl) rfl (Nat.le_of_ble_eq_true rfl) dX5_placeForHead_20 ⟨Nat.zero_le _, Nat.zero_le _⟩ (fun r4 hr4 => ?_)
  refine s_iload_n hC dX5_placeForHead_23 rfl 4 rfl ?_
  refine s_callS_P (As := [vI a2]) (rest := [vI r4]) hC hKA 1 (m_X5_cellsOf (I := J σ) h2) rfl (cb_of hC 1 q_c_yX5_cellsOf q_i_X5 q_m_X5_52 rfl rfl dd_yX5_cellsOf ⟨Nat.le_of_ble_eq_true rfl, Nat.le_of_ble_eq_true rfl⟩) q_s_yX5_cellsOf rfl (Nat.le_of_ble_eq_true rfl) dX5_placeForHead_24 ⟨Nat.zero_le _, Nat.zero_le _⟩ (fun r5 hr5 => ?_)
  refine s_icmp_lt (tgt := 32) hC dX5_placeForHead_27 (by decide) hr4 hr5 ?_ ?_
  · refine s_sub (L' := [(0, .ref (b + 0)), (1, vI a1), (2, vI a2), (3, vI r1), (4, vI r2)]) [2, 3, 4, 1, 0] rfl ?_
    refine s_iload_n hC dX5_placeForHead_32 rfl 3 rfl ?_
    refine s_iload hC dX5_placeForHead_33 4 rfl ?_
    refine s_jp_B (J := J) 80 ([(0, .ref (b + 0)), (2, vI a2)]) ([]) (fun σ7 hσ7 => ?_) (fun j6 hj6 => ?_)
    · refine s_aload_n hC dX5_placeForHead_80 rfl 0 rfl ?_
      refine s_iload_n hC dX5_placeForHead_81 rfl 1 rfl ?_
      refine s_callV_W (As := [vI a2]) (rest := []) (a := b + 0) hC hKA 1 (m_X5_placed hJ hσ7 h2) (fun _ h => h) rfl (cb_of hC 1 q_c_yX5_placed q_i_X5 q_m_X5_103 rfl rfl dd_yX5_placed ⟨Nat.le_of_ble_eq_true rfl, Nat.le_of_ble_eq_true rfl⟩) q_i_yX5_placed q_x_yX5_placed (s_recv hK (hJ.1 σ7) (by decide) o_Model rfl) rfl (Nat.le_of_ble_eq_true rfl) dX5_placeForHead_82 ⟨Nat.zero_le _, Nat.zero_le _⟩ (fun r8 σ9 hr8 hσ9 => ?_)
      exact s_iret hC hr dX5_placeForHead_85 (fun H hH => ⟨rfl, hr8, hσ9, hH⟩)
    · refine s_icmp_ne (tgt := 59) hC dX5_placeForHead_35 (by decide) hr1 hr2 ?_ ?_
      · refine s_sub (L' := [(0, .ref (b + 0)), (2, vI a2), (4, vI r2)]) [0, 2, 4] rfl ?_
        refine s_aload_n hC dX5_placeForHead_59 rfl 0 rfl ?_
        refine s_iload hC dX5_placeForHead_60 2 rfl ?_
        refine s_bipush hC dX5_placeForHead_62 (by decide) ?_
        refine s_idiv hC dX5_placeForHead_64 hr2 (inR_c _ rfl) (by decide) (fun v10 hv10 => ?_)
        refine s_callV_P (As := [vI v10]) (rest := []) (a := b + 0) hC hKA 1 (m_X5_freeOf (hJ.1 σ) hσ hv10) rfl (cb_of hC 1 q_c_yX5_freeOf q_i_X5 q_m_X5_55 rfl rfl dd_yX5_freeOf ⟨Nat.le_of_ble_eq_true rfl, Nat.le_of_ble_eq_true rfl⟩) q_i_yX5_freeOf q_x_yX5_freeOf (s_recv hK (hJ.1 σ) (by decide) o_Model rfl) rfl (Nat.le_of_ble_eq_true rfl) dX5_placeForHead_65 ⟨Nat.zero_le _, Nat.zero_le _⟩ (fun r11 hr11 => ?_)
        refine s_iconst hC dX5_placeForHead_68 ?_
        refine s_iadd hC dX5_placeForHead_69 ?_
        refine s_iload_n hC dX5_placeForHead_70 rfl 1 rfl ?_
        refine s_callS_P (As := [vI a2]) (rest := [vI (r11 + 1)]) hC hKA 1 (m_X5_cellsOf (I := J σ) h2) rfl (cb_of hC 1 q_c_yX5_cellsOf q_i_X5 q_m_X5_52 rfl rfl dd_yX5_cellsOf ⟨Nat.le_of_ble_eq_true rfl, Nat.le_of_ble_eq_true rfl⟩) q_s_yX5_cellsOf rfl (Nat.le_of_ble_eq_true rfl) dX5_placeForHead_71 ⟨Nat.zero_le _, Nat.zero_le _⟩ (fun r12 hr12 => ?_)
        refine s_ck1 (fun v13 hv13 => ?_)
        refine s_icmp_lt (tgt := 80) hC dX5_placeForHead_74 (by decide) hv13 hr12 ?_ ?_
        · refine s_sub (L' := [(0, .ref (b + 0)), (2, vI a2)]) [0, 1] rfl ?_
          exact hj6 σ hσ
        · refine s_sub (L' := [(4, vI r2)]) [2] rfl ?_
          refine s_iload hC dX5_placeForHead_77 0 rfl ?_
          exact s_iret hC hr dX5_placeForHead_79 (fun H hH => ⟨rfl, hr2, hσ, hH⟩)
      · refine s_sub (L' := [(0, .ref (b + 0)), (1, vI a1), (2, vI a2), (4, vI r2)]) [0, 1, 2, 4] rfl ?_
        refine s_aload_n hC dX5_placeForHead_38 rfl 0 rfl ?_
        refine s_get (b := b) hC hK (hJ.1 σ) (by decide) o_Model rfl q_w_X5 0 (by decide) q_f_X5_7 rfl dX5_placeForHead_39 ?_
        refine s_sipush hC dX5_placeForHead_42 (by decide) ?_
        refine s_iload hC dX5_placeForHead_45 3 rfl ?_
        refine s_iadd hC dX5_placeForHead_47 ?_
        refine s_iconst hC dX5_placeForHead_48 ?_
        refine s_iload_n hC dX5_placeForHead_49 rfl 1 rfl ?_
        refine s_iconst hC dX5_placeForHead_50 ?_
        refine s_iconst hC dX5_placeForHead_51 ?_
        refine s_callS_P (As := [vI 3, vI a1, vI 0, vI 0]) (rest := [vI (363 + r2), .ref (b + 1)]) hC hKA 4 (m_X5_thing (I := J σ) (inR_c _ rfl) h1 (inR_c _ rfl) (inR_c _ rfl)) rfl (cb_of hC 4 q_c_yX5_thing q_i_X5 q_m_X5_99 rfl rfl dd_yX5_thing ⟨Nat.le_of_ble_eq_true rfl, Nat.le_of_ble_eq_true rfl⟩) q_s_yX5_thing rfl (Nat.le_of_ble_eq_true rfl) dX5_placeForHead_52 ⟨Nat.zero_le _, Nat.zero_le _⟩ (fun r14 hr14 => ?_)
        refine s_iastore hC hK hJ (fun _ h => h) hσ hr14 (by decide) a_Model_1 dX5_placeForHead_55 (fun σ15 hσ15 => ?_)
        refine s_goto (tgt := 80) hC dX5_placeForHead_56 (by decide) ?_
        refine s_sub (L' := [(0, .ref (b + 0)), (2, vI a2)]) [0, 2] rfl ?_
        exact hj6 σ15 hσ15
  · refine s_sub (L' := [(3, vI r1)]) [1] rfl ?_
    refine s_iload_n hC dX5_placeForHead_30 rfl 0 rfl ?_
    exact s_iret hC hr dX5_placeForHead_31 (fun H hH => ⟨rfl, hr1, hσ, hH⟩)
set_option maxHeartbeats 4000000 in
set_option maxRecDepth 100000 in
theorem m_X5_writeAgain {l : Launch} {G : Gt} {b : Nat} {σ : Blk} {J : Blk → Heap → Prop} (hJ : Wd G (layModel G b) 10 b J) (hσ : Rg σ) {a1 : Int} (h1 : inR a1) : MetS l yX5_writeAgain cX5_writeAgain 4 (some .boolean) { frames := 5, cells := 0, slots := 0, locals := 110 } G [.ref (b + 0), vI a1] (J σ) (poW J) (Ab b 10) 0 0 (f_X5_writeAgain σ a1) := by
  refine met_of (by decide) (Nat.le_of_ble_eq_true rfl) ?_
  intro p e s m below meth c hC hKA hr _
  have hK := hKA.1
  unfold f_X5_writeAgain
  refine s_sub (L' := [(0, .ref (b + 0)), (1, vI a1)]) [0, 1] rfl ?_
  refine s_iconst hC dX5_writeAgain_0 ?_
  refine s_iload_n hC dX5_writeAgain_1 rfl 1 rfl ?_
  refine s_iconst hC dX5_writeAgain_2 ?_
  refine s_aload_n hC dX5_writeAgain_3 rfl 0 rfl ?_
  refine s_callV_P (As := []) (rest := [vI 0, vI a1, vI 1]) (a := b + 0) hC hKA 0 (m_X5_headLetters (hJ.1 σ) hσ) rfl (cb_of hC 0 q_c_yX5_headLetters q_i_X5 q_m_X5_95 rfl rfl dd_yX5_headLetters ⟨Nat.le_of_ble_eq_true rfl, Nat.le_of_ble_eq_true rfl⟩) q_i_yX5_headLetters q_x_yX5_headLetters (s_recv hK (hJ.1 σ) (by decide) o_Model rfl) rfl (Nat.le_of_ble_eq_true rfl) dX5_writeAgain_4 ⟨Nat.zero_le _, Nat.zero_le _⟩ (fun r1 hr1 => ?_)
  refine s_callS_P (As := [vI 1, vI a1, vI 0, vI r1]) (rest := []) hC hKA 4 (m_X5_thing (I := J σ) (inR_c _ rfl) h1 (inR_c _ rfl) hr1) rfl (cb_of hC 4 q_c_yX5_thing q_i_X5 q_m_X5_99 rfl rfl dd_yX5_thing ⟨Nat.le_of_ble_eq_true rfl, Nat.le_of_ble_eq_true rfl⟩) q_s_yX5_thing rfl (Nat.le_of_ble_eq_true rfl) dX5_writeAgain_7 ⟨Nat.zero_le _, Nat.zero_le _⟩ (fun r2 hr2 => ?_)
  refine s_istore_n (L' := [(2, vI r2), (0, .ref (b + 0)), (1, vI a1)]) hC dX5_writeAgain_10 rfl (by decide) rfl ?_
  refine s_aload_n hC dX5_writeAgain_11 rfl 1 rfl ?_
  refine s_iload_n hC dX5_writeAgain_12 rfl 2 rfl ?_
  refine s_callV_U (As := [vI a1]) (rest := []) (a := b + 0) hC hKA 1 (m_X5_dropPieces hJ hσ h1) (fun _ h => h) rfl (cb_of hC 1 q_c_yX5_dropPieces q_i_X5 q_m_X5_112 rfl rfl dd_yX5_dropPieces ⟨Nat.le_of_ble_eq_true rfl, Nat.le_of_ble_eq_true rfl⟩) q_i_yX5_dropPieces q_x_yX5_dropPieces (s_recv hK (hJ.1 σ) (by decide) o_Model rfl) rfl (Nat.le_of_ble_eq_true rfl) dX5_writeAgain_13 ⟨Nat.zero_le _, Nat.zero_le _⟩ (fun σ3 hσ3 => ?_)
  refine s_aload_n hC dX5_writeAgain_16 rfl 1 rfl ?_
  refine s_get (b := b) hC hK (hJ.1 σ3) (by decide) o_Model rfl q_w_X5 0 (by decide) q_f_X5_7 rfl dX5_writeAgain_17 ?_
  refine s_sipush hC dX5_writeAgain_20 (by decide) ?_
  refine s_aload_n hC dX5_writeAgain_23 rfl 1 rfl ?_
  refine s_iload_n hC dX5_writeAgain_24 rfl 2 rfl ?_
  refine s_iconst hC dX5_writeAgain_25 ?_
  refine s_callV_P (As := [vI a1, vI 4]) (rest := [vI 363, .ref (b + 1)]) (a := b + 0) hC hKA 2 (m_X5_part (hJ.1 σ3) hσ3 h1 (inR_c _ rfl)) rfl (cb_of hC 2 q_c_yX5_part q_i_X5 q_m_X5_61 rfl rfl dd_yX5_part ⟨Nat.le_of_ble_eq_true rfl, Nat.le_of_ble_eq_true rfl⟩) q_i_yX5_part q_x_yX5_part (s_recv hK (hJ.1 σ3) (by decide) o_Model rfl) rfl (Nat.le_of_ble_eq_true rfl) dX5_writeAgain_26 ⟨Nat.zero_le _, Nat.zero_le _⟩ (fun r4 hr4 => ?_)
  refine s_iadd hC dX5_writeAgain_29 ?_
  refine s_iconst hC dX5_writeAgain_30 ?_
  refine s_iastore hC hK hJ (fun _ h => h) hσ3 (inR_c _ rfl) (by decide) a_Model_1 dX5_writeAgain_31 (fun σ5 hσ5 => ?_)
  refine s_aload_n hC dX5_writeAgain_32 rfl 1 rfl ?_
  refine s_iload_n hC dX5_writeAgain_33 rfl 2 rfl ?_
  refine s_iload_n hC dX5_writeAgain_34 rfl 0 rfl ?_
  refine s_callV_W (As := [vI a1, vI r2]) (rest := []) (a := b + 0) hC hKA 2 (m_X5_placeForHead hJ hσ5 h1 hr2) (fun _ h => h) rfl (cb_of hC 2 q_c_yX5_placeForHead q_i_X5 q_m_X5_115 rfl rfl dd_yX5_placeForHead ⟨Nat.le_of_ble_eq_true rfl, Nat.le_of_ble_eq_true rfl⟩) q_i_yX5_placeForHead q_x_yX5_placeForHead (s_recv hK (hJ.1 σ5) (by decide) o_Model rfl) rfl (Nat.le_of_ble_eq_true rfl) dX5_writeAgain_35 ⟨Nat.zero_le _, Nat.zero_le _⟩ (fun r6 σ7 hr6 hσ7 => ?_)
  refine s_istore_n (L' := [(3, vI r6), (2, vI r2), (0, .ref (b + 0)), (1, vI a1)]) hC dX5_writeAgain_38 rfl (by decide) rfl ?_
  refine s_iload_n hC dX5_writeAgain_39 rfl 0 rfl ?_
  refine s_bipush hC dX5_writeAgain_40 (by decide) ?_
  refine s_icmp_ne (tgt := 47) hC dX5_writeAgain_42 (by decide) hr6 (inR_c _ rfl) ?_ ?_
  · refine s_sub (L' := [(0, .ref (b + 0)), (1, vI a1), (2, vI r2), (3, vI r6)]) [2, 3, 1, 0] rfl ?_
    refine s_aload_n hC dX5_writeAgain_47 rfl 0 rfl ?_
    refine s_get (b := b) hC hK (hJ.1 σ7) (by decide) o_Model rfl q_w_X5 0 (by decide) q_f_X5_7 rfl dX5_writeAgain_48 ?_
    refine s_sipush hC dX5_writeAgain_51 (by decide) ?_
    refine s_iload_n hC dX5_writeAgain_54 rfl 3 rfl ?_
    refine s_iadd hC dX5_writeAgain_55 ?_
    refine s_iload_n hC dX5_writeAgain_56 rfl 2 rfl ?_
    refine s_iastore hC hK hJ (fun _ h => h) hσ7 hr2 (by decide) a_Model_1 dX5_writeAgain_57 (fun σ8 hσ8 => ?_)
    refine s_aload_n hC dX5_writeAgain_58 rfl 0 rfl ?_
    refine s_iload_n hC dX5_writeAgain_59 rfl 1 rfl ?_
    refine s_iconst hC dX5_writeAgain_60 ?_
    refine s_iload_n hC dX5_writeAgain_61 rfl 3 rfl ?_
    refine s_callV_U (As := [vI a1, vI 4, vI r6]) (rest := []) (a := b + 0) hC hKA 3 (m_X5_setPart hJ hσ8 h1 (inR_c _ rfl) hr6) (fun _ h => h) rfl (cb_of hC 3 q_c_yX5_setPart q_i_X5 q_m_X5_91 rfl rfl dd_yX5_setPart ⟨Nat.le_of_ble_eq_true rfl, Nat.le_of_ble_eq_true rfl⟩) q_i_yX5_setPart q_x_yX5_setPart (s_recv hK (hJ.1 σ8) (by decide) o_Model rfl) rfl (Nat.le_of_ble_eq_true rfl) dX5_writeAgain_62 ⟨Nat.zero_le _, Nat.zero_le _⟩ (fun σ9 hσ9 => ?_)
    refine s_aload_n hC dX5_writeAgain_65 rfl 0 rfl ?_
    refine s_iload_n hC dX5_writeAgain_66 rfl 1 rfl ?_
    refine s_callV_U (As := [vI a1]) (rest := []) (a := b + 0) hC hKA 1 (m_X5_setText hJ hσ9 h1) (fun _ h => h) rfl (cb_of hC 1 q_c_yX5_setText q_i_X5 q_m_X5_106 rfl rfl dd_yX5_setText ⟨Nat.le_of_ble_eq_true rfl, Nat.le_of_ble_eq_true rfl⟩) q_i_yX5_setText q_x_yX5_setText (s_recv hK (hJ.1 σ9) (by decide) o_Model rfl) rfl (Nat.le_of_ble_eq_true rfl) dX5_writeAgain_67 ⟨Nat.zero_le _, Nat.zero_le _⟩ (fun σ10 hσ10 => ?_)
    refine s_aload_n hC dX5_writeAgain_70 rfl 0 rfl ?_
    refine s_iload_n hC dX5_writeAgain_71 rfl 1 rfl ?_
    refine s_callV_W (As := [vI a1]) (rest := []) (a := b + 0) hC hKA 1 (m_X5_putPieces hJ hσ10 h1) (fun _ h => h) rfl (cb_of hC 1 q_c_yX5_putPieces q_i_X5 q_m_X5_109 rfl rfl dd_yX5_putPieces ⟨Nat.le_of_ble_eq_true rfl, Nat.le_of_ble_eq_true rfl⟩) q_i_yX5_putPieces q_x_yX5_putPieces (s_recv hK (hJ.1 σ10) (by decide) o_Model rfl) rfl (Nat.le_of_ble_eq_true rfl) dX5_writeAgain_72 ⟨Nat.zero_le _, Nat.zero_le _⟩ (fun r11 σ12 hr11 hσ12 => ?_)
    refine s_ckB (fun z13 => ?_)
    exact s_zret hC hr z13 dX5_writeAgain_75 (fun H hH => ⟨rfl, hr11, hσ12, hH⟩)
  · refine s_sub (L' := []) [] rfl ?_
    refine s_iconst hC dX5_writeAgain_45 ?_
    exact s_zret hC hr (Or.inl rfl) dX5_writeAgain_46 (fun H hH => ⟨rfl, (inR_c _ rfl), hσ7, hH⟩)
set_option maxHeartbeats 4000000 in
set_option maxRecDepth 100000 in
theorem m_X5_freeRow {l : Launch} {G : Gt} {b : Nat} {σ : Blk} {I : Heap → Prop} (hI : ∀ H, I H → Bk G (layModel G b) 10 b σ H) (hσ : Rg σ)  : MetS l yX5_freeRow cX5_freeRow 3 (some .int) { frames := 1, cells := 0, slots := 0, locals := 22 } G [.ref (b + 0)] I (poP I) (fun _ => False) 0 0 (f_X5_freeRow σ) := by
  refine met_of (by decide) (Nat.le_of_ble_eq_true rfl) ?_
  intro p e s m below meth c hC hKA hr _
  have hK := hKA.1
  unfold f_X5_freeRow
  refine s_sub (L' := [(0, .ref (b + 0))]) [0] rfl ?_
  refine s_bipush hC dX5_freeRow_0 (by decide) ?_
  refine s_istore_n (L' := [(1, vI ((-6))), (0, .ref (b + 0))]) hC dX5_freeRow_2 rfl (by decide) rfl ?_
  refine s_bipush hC dX5_freeRow_3 (by decide) ?_
  refine s_istore_n (L' := [(2, vI 29), (1, vI ((-6))), (0, .ref (b + 0))]) hC dX5_freeRow_5 rfl (by decide) rfl ?_
  refine s_sub (L' := [(0, .ref (b + 0)), (1, vI ((-6))), (2, vI 29)]) [2, 1, 0] rfl ?_
  refine s_lp_II (F := f_X5_freeRow_L6 σ) 6 (fun x1 x2 => [(0, .ref (b + 0)), (1, vI x1), (2, vI x2)]) (fun _ _ => rfl) (fun n ih6 x1 x2 hx1 hx2 => ?_) fu ((-6)) 29 (inR_c _ rfl) (inR_c _ rfl)
  rw [f_X5_freeRow_L6]
  refine s_iload_n hC dX5_freeRow_6 rfl 2 rfl ?_
  refine s_if_lt (tgt := 31) hC dX5_freeRow_7 (by decide) hx2 ?_ ?_
  · refine s_sub (L' := [(1, vI x1)]) [1] rfl ?_
    refine s_iload_n hC dX5_freeRow_31 rfl 0 rfl ?_
    exact s_iret hC hr dX5_freeRow_32 (fun H hH => ⟨rfl, hx1, hH⟩)
  · refine s_aload_n hC dX5_freeRow_10 rfl 0 rfl ?_
    refine s_iload_n hC dX5_freeRow_11 rfl 2 rfl ?_
    refine s_iconst hC dX5_freeRow_12 ?_
    refine s_callV_P (As := [vI x2, vI 0]) (rest := []) (a := b + 0) hC hKA 2 (m_X5_part hI hσ hx2 (inR_c _ rfl)) rfl (cb_of hC 2 q_c_yX5_part q_i_X5 q_m_X5_61 rfl rfl dd_yX5_part ⟨Nat.le_of_ble_eq_true rfl, Nat.le_of_ble_eq_true rfl⟩) q_i_yX5_part q_x_yX5_part (s_recv hK hI (by decide) o_Model rfl) rfl (Nat.le_of_ble_eq_true rfl) dX5_freeRow_13 ⟨Nat.zero_le _, Nat.zero_le _⟩ (fun r3 hr3 => ?_)
    refine s_jp_I 24 (fun x5 => [(0, .ref (b + 0)), (2, vI x2)]) (fun x5 => [vI x5]) (fun x5 hx5 => ?_) (fun j4 hj4 => ?_)
    · refine s_istore_n (L' := [(1, vI x5), (0, .ref (b + 0)), (2, vI x2)]) hC dX5_freeRow_24 rfl (by decide) rfl ?_
      refine s_iincK hC dX5_freeRow_25 2 rfl (by decide) (fun v6 => [(2, vI v6), (1, vI x5), (0, .ref (b + 0))]) (fun _ => rfl) (fun v6 hv6 => ?_)
      refine s_goto (tgt := 6) hC dX5_freeRow_28 (by decide) ?_
      refine s_sub (L' := [(0, .ref (b + 0)), (1, vI x5), (2, vI v6)]) [2, 1, 0] rfl ?_
      exact ih6 x5 v6 hx5 hv6
    · refine s_if_ne (tgt := 23) hC dX5_freeRow_16 (by decide) hr3 ?_ ?_
      · refine s_iload_n hC dX5_freeRow_23 rfl 1 rfl ?_
        refine s_sub (L' := [(0, .ref (b + 0)), (2, vI x2)]) [0, 2] rfl ?_
        exact hj4 x1 hx1
      · refine s_sub (L' := [(0, .ref (b + 0)), (2, vI x2)]) [0, 2] rfl ?_
        refine s_iload_n hC dX5_freeRow_19 rfl 1 rfl ?_
        refine s_goto (tgt := 24) hC dX5_freeRow_20 (by decide) ?_
        exact hj4 x2 hx2
set_option maxHeartbeats 4000000 in
set_option maxRecDepth 100000 in
theorem m_X5_writes {l : Launch} {G : Gt} {b : Nat} {σ : Blk} {J : Blk → Heap → Prop} (hJ : Wd G (layModel G b) 10 b J) (hσ : Rg σ) {a1 : Int} (h1 : inR a1) : MetS l yX5_writes cX5_writes 4 (some .boolean) { frames := 6, cells := 0, slots := 0, locals := 133 } G [.ref (b + 0), vI a1] (J σ) (poW J) (Ab b 10) 0 0 (f_X5_writes σ a1) := by
  refine met_of (by decide) (Nat.le_of_ble_eq_true rfl) ?_
  intro p e s m below meth c hC hKA hr _
  have hK := hKA.1
  unfold f_X5_writes
  refine s_sub (L' := [(0, .ref (b + 0)), (1, vI a1)]) [0, 1] rfl ?_
  refine s_aload_n hC dX5_writes_0 rfl 0 rfl ?_
  refine s_iload_n hC dX5_writes_1 rfl 1 rfl ?_
  refine s_callV_P (As := [vI a1]) (rest := []) (a := b + 0) hC hKA 1 (m_X5_rowWith (hJ.1 σ) hσ h1) rfl (cb_of hC 1 q_c_yX5_rowWith q_i_X5 q_m_X5_118 rfl rfl dd_yX5_rowWith ⟨Nat.le_of_ble_eq_true rfl, Nat.le_of_ble_eq_true rfl⟩) q_i_yX5_rowWith q_x_yX5_rowWith (s_recv hK (hJ.1 σ) (by decide) o_Model rfl) rfl (Nat.le_of_ble_eq_true rfl) dX5_writes_2 ⟨Nat.zero_le _, Nat.zero_le _⟩ (fun r1 hr1 => ?_)
  refine s_istore_n (L' := [(2, vI r1), (0, .ref (b + 0)), (1, vI a1)]) hC dX5_writes_5 rfl (by decide) rfl ?_
  refine s_iload_n hC dX5_writes_6 rfl 0 rfl ?_
  refine s_bipush hC dX5_writes_7 (by decide) ?_
  refine s_jp_ 25 ([(0, .ref (b + 0)), (1, vI a1), (2, vI r1)]) ([]) ?_ (fun j2 hj2 => ?_)
  · refine s_aload_n hC dX5_writes_25 rfl 0 rfl ?_
    refine s_get (b := b) hC hK (hJ.1 σ) (by decide) o_Model rfl q_w_X5 0 (by decide) q_f_X5_7 rfl dX5_writes_26 ?_
    refine s_iconst hC dX5_writes_29 ?_
    refine s_aload_n hC dX5_writes_30 rfl 0 rfl ?_
    refine s_get (b := b) hC hK (hJ.1 σ) (by decide) o_Model rfl q_w_X5 2 (by decide) q_f_X5_16 rfl dX5_writes_31 ?_
    refine s_iconst hC dX5_writes_34 ?_
    refine s_callS_U (As := [.ref (b + 1), vI 0, .ref (b + 3), vI 0]) (rest := []) hC hKA 4 (m_X5_moves hJ hσ (by decide) a_Model_1 (inR_c _ rfl) (by decide) a_Model_3 (inR_c _ rfl)) (fun _ h => h) rfl (cb_of hC 4 q_c_yX5_moves q_i_X5 q_m_X5_41 rfl rfl dd_yX5_moves ⟨Nat.le_of_ble_eq_true rfl, Nat.le_of_ble_eq_true rfl⟩) q_s_yX5_moves rfl (Nat.le_of_ble_eq_true rfl) dX5_writes_35 ⟨Nat.zero_le _, Nat.zero_le _⟩ (fun σ3 hσ3 => ?_)
    refine s_iload_n hC dX5_writes_38 rfl 2 rfl ?_
    refine s_bipush hC dX5_writes_39 (by decide) ?_
    refine s_jp_IB (J := J) 88 (fun x5 => [(0, .ref (b + 0)), (3, vI x5)]) (fun x5 => []) (fun x5 σ6 hx5 hσ6 => ?_) (fun j4 hj4 => ?_)
    · refine s_iload_n hC dX5_writes_88 rfl 1 rfl ?_
      refine s_if_ne (tgt := 105) hC dX5_writes_89 (by decide) hx5 ?_ ?_
      · refine s_sub (L' := [(3, vI x5)]) [1] rfl ?_
        refine s_iload_n hC dX5_writes_105 rfl 0 rfl ?_
        refine s_ckB (fun z7 => ?_)
        exact s_zret hC hr z7 dX5_writes_106 (fun H hH => ⟨rfl, hx5, hσ6, hH⟩)
      · refine s_aload_n hC dX5_writes_92 rfl 0 rfl ?_
        refine s_get (b := b) hC hK (hJ.1 σ6) (by decide) o_Model rfl q_w_X5 2 (by decide) q_f_X5_16 rfl dX5_writes_93 ?_
        refine s_iconst hC dX5_writes_96 ?_
        refine s_aload_n hC dX5_writes_97 rfl 0 rfl ?_
        refine s_get (b := b) hC hK (hJ.1 σ6) (by decide) o_Model rfl q_w_X5 0 (by decide) q_f_X5_7 rfl dX5_writes_98 ?_
        refine s_iconst hC dX5_writes_101 ?_
        refine s_callS_U (As := [.ref (b + 3), vI 0, .ref (b + 1), vI 0]) (rest := []) hC hKA 4 (m_X5_moves hJ hσ6 (by decide) a_Model_3 (inR_c _ rfl) (by decide) a_Model_1 (inR_c _ rfl)) (fun _ h => h) rfl (cb_of hC 4 q_c_yX5_moves q_i_X5 q_m_X5_41 rfl rfl dd_yX5_moves ⟨Nat.le_of_ble_eq_true rfl, Nat.le_of_ble_eq_true rfl⟩) q_s_yX5_moves rfl (Nat.le_of_ble_eq_true rfl) dX5_writes_102 ⟨Nat.zero_le _, Nat.zero_le _⟩ (fun σ8 hσ8 => ?_)
        refine s_sub (L' := [(3, vI x5)]) [1] rfl ?_
        refine s_iload_n hC dX5_writes_105 rfl 0 rfl ?_
        refine s_ckB (fun z9 => ?_)
        exact s_zret hC hr z9 dX5_writes_106 (fun H hH => ⟨rfl, hx5, hσ8, hH⟩)
    · refine s_icmp_ne (tgt := 82) hC dX5_writes_41 (by decide) hr1 (inR_c _ rfl) ?_ ?_
      · refine s_sub (L' := [(0, .ref (b + 0)), (2, vI r1)]) [0, 2] rfl ?_
        refine s_aload_n hC dX5_writes_82 rfl 0 rfl ?_
        refine s_iload_n hC dX5_writes_83 rfl 1 rfl ?_
        refine s_callV_W (As := [vI r1]) (rest := []) (a := b + 0) hC hKA 1 (m_X5_writeAgain hJ hσ3 hr1) (fun _ h => h) rfl (cb_of hC 1 q_c_yX5_writeAgain q_i_X5 q_m_X5_127 rfl rfl dd_yX5_writeAgain ⟨Nat.le_of_ble_eq_true rfl, Nat.le_of_ble_eq_true rfl⟩) q_i_yX5_writeAgain q_x_yX5_writeAgain (s_recv hK (hJ.1 σ3) (by decide) o_Model rfl) rfl (Nat.le_of_ble_eq_true rfl) dX5_writes_84 ⟨Nat.zero_le _, Nat.zero_le _⟩ (fun r10 σ11 hr10 hσ11 => ?_)
        refine s_istore_n (L' := [(3, vI r10), (0, .ref (b + 0)), (2, vI r1)]) hC dX5_writes_87 rfl (by decide) rfl ?_
        refine s_sub (L' := [(0, .ref (b + 0)), (3, vI r10)]) [1, 0] rfl ?_
        exact hj4 r10 σ11 hr10 hσ11
      · refine s_sub (L' := [(0, .ref (b + 0)), (1, vI a1)]) [0, 1] rfl ?_
        refine s_aload_n hC dX5_writes_44 rfl 0 rfl ?_
        refine s_callV_P (As := []) (rest := []) (a := b + 0) hC hKA 0 (m_X5_freeRow (hJ.1 σ3) hσ3) rfl (cb_of hC 0 q_c_yX5_freeRow q_i_X5 q_m_X5_121 rfl rfl dd_yX5_freeRow ⟨Nat.le_of_ble_eq_true rfl, Nat.le_of_ble_eq_true rfl⟩) q_i_yX5_freeRow q_x_yX5_freeRow (s_recv hK (hJ.1 σ3) (by decide) o_Model rfl) rfl (Nat.le_of_ble_eq_true rfl) dX5_writes_45 ⟨Nat.zero_le _, Nat.zero_le _⟩ (fun r12 hr12 => ?_)
        refine s_istore_n (L' := [(2, vI r12), (0, .ref (b + 0)), (1, vI a1)]) hC dX5_writes_48 rfl (by decide) rfl ?_
        refine s_aload_n hC dX5_writes_49 rfl 1 rfl ?_
        refine s_iload_n hC dX5_writes_50 rfl 0 rfl ?_
        refine s_iconst hC dX5_writes_51 ?_
        refine s_iconst hC dX5_writes_52 ?_
        refine s_callV_U (As := [vI r12, vI 0, vI 1]) (rest := []) (a := b + 0) hC hKA 3 (m_X5_setPart hJ hσ3 hr12 (inR_c _ rfl) (inR_c _ rfl)) (fun _ h => h) rfl (cb_of hC 3 q_c_yX5_setPart q_i_X5 q_m_X5_91 rfl rfl dd_yX5_setPart ⟨Nat.le_of_ble_eq_true rfl, Nat.le_of_ble_eq_true rfl⟩) q_i_yX5_setPart q_x_yX5_setPart (s_recv hK (hJ.1 σ3) (by decide) o_Model rfl) rfl (Nat.le_of_ble_eq_true rfl) dX5_writes_53 ⟨Nat.zero_le _, Nat.zero_le _⟩ (fun σ13 hσ13 => ?_)
        refine s_aload_n hC dX5_writes_56 rfl 1 rfl ?_
        refine s_iload_n hC dX5_writes_57 rfl 0 rfl ?_
        refine s_iconst hC dX5_writes_58 ?_
        refine s_iload_n hC dX5_writes_59 rfl 2 rfl ?_
        refine s_callV_U (As := [vI r12, vI 1, vI a1]) (rest := []) (a := b + 0) hC hKA 3 (m_X5_setPart hJ hσ13 hr12 (inR_c _ rfl) h1) (fun _ h => h) rfl (cb_of hC 3 q_c_yX5_setPart q_i_X5 q_m_X5_91 rfl rfl dd_yX5_setPart ⟨Nat.le_of_ble_eq_true rfl, Nat.le_of_ble_eq_true rfl⟩) q_i_yX5_setPart q_x_yX5_setPart (s_recv hK (hJ.1 σ13) (by decide) o_Model rfl) rfl (Nat.le_of_ble_eq_true rfl) dX5_writes_60 ⟨Nat.zero_le _, Nat.zero_le _⟩ (fun σ14 hσ14 => ?_)
        refine s_aload_n hC dX5_writes_63 rfl 1 rfl ?_
        refine s_get (b := b) hC hK (hJ.1 σ14) (by decide) o_Model rfl q_w_X5 0 (by decide) q_f_X5_7 rfl dX5_writes_64 ?_
        refine s_iconst hC dX5_writes_67 ?_
        refine s_dup2 hC dX5_writes_68 rfl rfl ?_
        refine s_iaload hC hK (hJ.1 σ14) hσ14 (by decide) a_Model_1 dX5_writes_69 (fun v15 hv15 => ?_)
        refine s_iconst hC dX5_writes_70 ?_
        refine s_iadd hC dX5_writes_71 ?_
        refine s_ck0 (fun v16 hv16 => ?_)
        refine s_iastore hC hK hJ (fun _ h => h) hσ14 hv16 (by decide) a_Model_1 dX5_writes_72 (fun σ17 hσ17 => ?_)
        refine s_aload_n hC dX5_writes_73 rfl 1 rfl ?_
        refine s_iload_n hC dX5_writes_74 rfl 0 rfl ?_
        refine s_callV_W (As := [vI r12]) (rest := []) (a := b + 0) hC hKA 1 (m_X5_writeNew hJ hσ17 hr12) (fun _ h => h) rfl (cb_of hC 1 q_c_yX5_writeNew q_i_X5 q_m_X5_124 rfl rfl dd_yX5_writeNew ⟨Nat.le_of_ble_eq_true rfl, Nat.le_of_ble_eq_true rfl⟩) q_i_yX5_writeNew q_x_yX5_writeNew (s_recv hK (hJ.1 σ17) (by decide) o_Model rfl) rfl (Nat.le_of_ble_eq_true rfl) dX5_writes_75 ⟨Nat.zero_le _, Nat.zero_le _⟩ (fun r18 σ19 hr18 hσ19 => ?_)
        refine s_istore_n (L' := [(3, vI r18), (2, vI r12), (0, .ref (b + 0)), (1, vI a1)]) hC dX5_writes_78 rfl (by decide) rfl ?_
        refine s_goto (tgt := 88) hC dX5_writes_79 (by decide) ?_
        refine s_sub (L' := [(0, .ref (b + 0)), (3, vI r18)]) [2, 0] rfl ?_
        exact hj4 r18 σ19 hr18 hσ19
  · refine s_icmp_ne (tgt := 25) hC dX5_writes_9 (by decide) hr1 (inR_c _ rfl) ?_ ?_
    · refine s_sub (L' := [(0, .ref (b + 0)), (1, vI a1), (2, vI r1)]) [1, 2, 0] rfl ?_
      exact hj2
    · refine s_sub (L' := [(0, .ref (b + 0)), (1, vI a1), (2, vI r1)]) [1, 2, 0] rfl ?_
      refine s_aload_n hC dX5_writes_12 rfl 0 rfl ?_
      refine s_get (b := b) hC hK (hJ.1 σ) (by decide) o_Model rfl q_w_X5 0 (by decide) q_f_X5_7 rfl dX5_writes_13 ?_
      refine s_iconst hC dX5_writes_16 ?_
      refine s_iaload hC hK (hJ.1 σ) hσ (by decide) a_Model_1 dX5_writes_17 (fun v20 hv20 => ?_)
      refine s_bipush hC dX5_writes_18 (by decide) ?_
      refine s_icmp_ne (tgt := 25) hC dX5_writes_20 (by decide) hv20 (inR_c _ rfl) ?_ ?_
      · exact hj2
      · refine s_sub (L' := []) [] rfl ?_
        refine s_iconst hC dX5_writes_23 ?_
        exact s_zret hC hr (Or.inl rfl) dX5_writes_24 (fun H hH => ⟨rfl, (inR_c _ rfl), hσ, hH⟩)
set_option maxHeartbeats 4000000 in
set_option maxRecDepth 100000 in
theorem m_X5_isValue {l : Launch} {G : Gt} {I : Heap → Prop} {a1 : Int} (h1 : inR a1) {a2 : Int} (h2 : inR a2) : MetS l yX5_isValue cX5_isValue 2 (some .boolean) { frames := 1, cells := 0, slots := 0, locals := 22 } G [vI a1, vI a2] I (poP I) (fun _ => False) 0 0 (f_X5_isValue a1 a2) := by
  refine met_of (by decide) (Nat.le_of_ble_eq_true rfl) ?_
  intro p e s m below meth c hC hKA hr _
  have hK := hKA.1
  unfold f_X5_isValue
  refine s_sub (L' := [(0, vI a1), (1, vI a2)]) [0, 1] rfl ?_
  refine s_iload_n hC dX5_isValue_0 rfl 0 rfl ?_
  refine s_if_ne (tgt := 14) hC dX5_isValue_1 (by decide) h1 ?_ ?_
  · refine s_iload_n hC dX5_isValue_14 rfl 0 rfl ?_
    refine s_iconst hC dX5_isValue_15 ?_
    refine s_icmp_ne (tgt := 33) hC dX5_isValue_16 (by decide) h1 (inR_c _ rfl) ?_ ?_
    · refine s_sub (L' := []) [] rfl ?_
      refine s_iconst hC dX5_isValue_33 ?_
      exact s_zret hC hr (Or.inl rfl) dX5_isValue_34 (fun H hH => ⟨rfl, (inR_c _ rfl), hH⟩)
    · refine s_sub (L' := [(1, vI a2)]) [1] rfl ?_
      refine s_iload_n hC dX5_isValue_19 rfl 0 rfl ?_
      refine s_iconst hC dX5_isValue_20 ?_
      refine s_bipush hC dX5_isValue_21 (by decide) ?_
      refine s_callS_P (As := [vI a2, vI 1, vI 12]) (rest := []) hC hKA 3 (m_X5_within (I := I) h2 (inR_c _ rfl) (inR_c _ rfl)) rfl (cb_of hC 3 q_c_yX5_within q_i_X5 q_m_X5_130 rfl rfl dd_yX5_within ⟨Nat.le_of_ble_eq_true rfl, Nat.le_of_ble_eq_true rfl⟩) q_s_yX5_within rfl (Nat.le_of_ble_eq_true rfl) dX5_isValue_23 ⟨Nat.zero_le _, Nat.zero_le _⟩ (fun r1 hr1 => ?_)
      refine s_if_eq (tgt := 33) hC dX5_isValue_26 (by decide) hr1 ?_ ?_
      · refine s_sub (L' := []) [] rfl ?_
        refine s_iconst hC dX5_isValue_33 ?_
        exact s_zret hC hr (Or.inl rfl) dX5_isValue_34 (fun H hH => ⟨rfl, (inR_c _ rfl), hH⟩)
      · refine s_sub (L' := []) [] rfl ?_
        refine s_iconst hC dX5_isValue_29 ?_
        refine s_goto (tgt := 34) hC dX5_isValue_30 (by decide) ?_
        exact s_zret hC hr (Or.inr rfl) dX5_isValue_34 (fun H hH => ⟨rfl, (inR_c _ rfl), hH⟩)
  · refine s_sub (L' := [(1, vI a2)]) [1] rfl ?_
    refine s_iload_n hC dX5_isValue_4 rfl 0 rfl ?_
    refine s_iconst hC dX5_isValue_5 ?_
    refine s_bipush hC dX5_isValue_6 (by decide) ?_
    refine s_callS_P (As := [vI a2, vI 0, vI 16]) (rest := []) hC hKA 3 (m_X5_within (I := I) h2 (inR_c _ rfl) (inR_c _ rfl)) rfl (cb_of hC 3 q_c_yX5_within q_i_X5 q_m_X5_130 rfl rfl dd_yX5_within ⟨Nat.le_of_ble_eq_true rfl, Nat.le_of_ble_eq_true rfl⟩) q_s_yX5_within rfl (Nat.le_of_ble_eq_true rfl) dX5_isValue_8 ⟨Nat.zero_le _, Nat.zero_le _⟩ (fun r2 hr2 => ?_)
    refine s_goto (tgt := 34) hC dX5_isValue_11 (by decide) ?_
    refine s_sub (L' := []) [] rfl ?_
    refine s_ckB (fun z3 => ?_)
    exact s_zret hC hr z3 dX5_isValue_34 (fun H hH => ⟨rfl, hr2, hH⟩)
set_option maxHeartbeats 4000000 in
set_option maxRecDepth 100000 in
theorem m_X5_set {l : Launch} {G : Gt} {b : Nat} {σ : Blk} {J : Blk → Heap → Prop} (hJ : Wd G (layModel G b) 10 b J) (hσ : Rg σ) {a1 : Int} (h1 : inR a1) {a2 : Int} (h2 : inR a2) : MetS l yX5_set cX5_set 4 (some .int) { frames := 2, cells := 0, slots := 0, locals := 46 } G [.ref (b + 0), vI a1, vI a2] (J σ) (poW J) (Ab b 10) 0 0 (f_X5_set σ a1 a2) := by
  refine met_of (by decide) (Nat.le_of_ble_eq_true rfl) ?_
  intro p e s m below meth c hC hKA hr _
  have hK := hKA.1
  unfold f_X5_set
  refine s_sub (L' := [(0, .ref (b + 0)), (1, vI a1), (2, vI a2)]) [0, 1, 2] rfl ?_
  refine s_iload_n hC dX5_set_0 rfl 1 rfl ?_
  refine s_iload_n hC dX5_set_1 rfl 2 rfl ?_
  refine s_callS_P (As := [vI a1, vI a2]) (rest := []) hC hKA 2 (m_X5_isValue (I := J σ) h1 h2) rfl (cb_of hC 2 q_c_yX5_isValue q_i_X5 q_m_X5_134 rfl rfl dd_yX5_isValue ⟨Nat.le_of_ble_eq_true rfl, Nat.le_of_ble_eq_true rfl⟩) q_s_yX5_isValue rfl (Nat.le_of_ble_eq_true rfl) dX5_set_2 ⟨Nat.zero_le _, Nat.zero_le _⟩ (fun r1 hr1 => ?_)
  refine s_if_ne (tgt := 11) hC dX5_set_5 (by decide) hr1 ?_ ?_
  · refine s_aload_n hC dX5_set_11 rfl 0 rfl ?_
    refine s_aload_n hC dX5_set_12 rfl 0 rfl ?_
    refine s_get (b := b) hC hK (hJ.1 σ) (by decide) o_Model rfl q_w_X5 0 (by decide) q_f_X5_7 rfl dX5_set_13 ?_
    refine s_callV_U (As := [.ref (b + 1)]) (rest := []) (a := b + 0) hC hKA 1 (m_X5_record hJ hσ (by decide) a_Model_1) (fun _ h => h) rfl (cb_of hC 1 q_c_yX5_record q_i_X5 q_m_X5_138 rfl rfl dd_yX5_record ⟨Nat.le_of_ble_eq_true rfl, Nat.le_of_ble_eq_true rfl⟩) q_i_yX5_record q_x_yX5_record (s_recv hK (hJ.1 σ) (by decide) o_Model rfl) rfl (Nat.le_of_ble_eq_true rfl) dX5_set_16 ⟨Nat.zero_le _, Nat.zero_le _⟩ (fun σ2 hσ2 => ?_)
    refine s_aload_n hC dX5_set_19 rfl 0 rfl ?_
    refine s_get (b := b) hC hK (hJ.1 σ2) (by decide) o_Model rfl q_w_X5 0 (by decide) q_f_X5_7 rfl dX5_set_20 ?_
    refine s_iload_n hC dX5_set_23 rfl 1 rfl ?_
    refine s_iaload hC hK (hJ.1 σ2) hσ2 (by decide) a_Model_1 dX5_set_24 (fun v3 hv3 => ?_)
    refine s_istore_n (L' := [(3, vI v3), (0, .ref (b + 0)), (1, vI a1), (2, vI a2)]) hC dX5_set_25 rfl (by decide) rfl ?_
    refine s_aload_n hC dX5_set_26 rfl 1 rfl ?_
    refine s_get (b := b) hC hK (hJ.1 σ2) (by decide) o_Model rfl q_w_X5 0 (by decide) q_f_X5_7 rfl dX5_set_27 ?_
    refine s_iload_n hC dX5_set_30 rfl 2 rfl ?_
    refine s_iload_n hC dX5_set_31 rfl 3 rfl ?_
    refine s_iastore hC hK hJ (fun _ h => h) hσ2 h2 (by decide) a_Model_1 dX5_set_32 (fun σ4 hσ4 => ?_)
    refine s_iload_n hC dX5_set_33 rfl 0 rfl ?_
    exact s_iret hC hr dX5_set_34 (fun H hH => ⟨rfl, hv3, hσ4, hH⟩)
  · refine s_sub (L' := []) [] rfl ?_
    refine s_bipush hC dX5_set_8 (by decide) ?_
    exact s_iret hC hr dX5_set_10 (fun H hH => ⟨rfl, (inR_c _ rfl), hσ, hH⟩)
set_option maxHeartbeats 4000000 in
set_option maxRecDepth 100000 in
theorem m_X5_findFault {l : Launch} {G : Gt} {b : Nat} {σ : Blk} {I : Heap → Prop} (hI : ∀ H, I H → Bk G (layModel G b) 10 b σ H) (hσ : Rg σ)  : MetS l yX5_findFault cX5_findFault 9 (some .int) { frames := 1, cells := 0, slots := 0, locals := 22 } G [.ref (b + 0)] I (poP I) (fun _ => False) 0 0 (f_X5_findFault σ) := by
  refine met_of (by decide) (Nat.le_of_ble_eq_true rfl) ?_
  intro p e s m below meth c hC hKA hr _
  have hK := hKA.1
  unfold f_X5_findFault
  refine s_sub (L' := [(0, .ref (b + 0))]) [0] rfl ?_
  refine s_bipush hC dX5_findFault_0 (by decide) ?_
  refine s_istore_n (L' := [(1, vI ((-6))), (0, .ref (b + 0))]) hC dX5_findFault_2 rfl (by decide) rfl ?_
  refine s_bipush hC dX5_findFault_3 (by decide) ?_
  refine s_istore_n (L' := [(2, vI ((-6))), (1, vI ((-6))), (0, .ref (b + 0))]) hC dX5_findFault_5 rfl (by decide) rfl ?_
  refine s_iconst hC dX5_findFault_6 ?_
  refine s_istore_n (L' := [(3, vI 0), (2, vI ((-6))), (1, vI ((-6))), (0, .ref (b + 0))]) hC dX5_findFault_7 rfl (by decide) rfl ?_
  refine s_sub (L' := [(0, .ref (b + 0)), (1, vI ((-6))), (2, vI ((-6))), (3, vI 0)]) [3, 2, 1, 0] rfl ?_
  refine s_jp_I 246 (fun x2 => [(0, .ref (b + 0)), (2, vI x2)]) (fun x2 => []) (fun x2 hx2 => ?_) (fun j1 hj1 => ?_)
  · refine s_iload_n hC dX5_findFault_246 rfl 1 rfl ?_
    refine s_bipush hC dX5_findFault_247 (by decide) ?_
    refine s_icmp_ne (tgt := 259) hC dX5_findFault_249 (by decide) hx2 (inR_c _ rfl) ?_ ?_
    · refine s_sub (L' := []) [] rfl ?_
      refine s_bipush hC dX5_findFault_259 (by decide) ?_
      exact s_iret hC hr dX5_findFault_261 (fun H hH => ⟨rfl, (inR_c _ rfl), hH⟩)
    · refine s_sub (L' := [(0, .ref (b + 0))]) [0] rfl ?_
      refine s_aload_n hC dX5_findFault_252 rfl 0 rfl ?_
      refine s_get (b := b) hC hK hI (by decide) o_Model rfl q_w_X5 8 (by decide) q_f_X5_145 rfl dX5_findFault_253 ?_
      refine s_goto (tgt := 261) hC dX5_findFault_256 (by decide) ?_
      refine s_sub (L' := []) [] rfl ?_
      exact s_iret hC hr dX5_findFault_261 (fun H hH => ⟨rfl, (hσ 0 8), hH⟩)
  · refine s_lp_III (F := f_X5_findFault_L8 σ j1) 8 (fun x3 x4 x5 => [(0, .ref (b + 0)), (1, vI x3), (2, vI x4), (3, vI x5)]) (fun _ _ _ => rfl) (fun n ih8 x3 x4 x5 hx3 hx4 hx5 => ?_) fu ((-6)) ((-6)) 0 (inR_c _ rfl) (inR_c _ rfl) (inR_c _ rfl)
    rw [f_X5_findFault_L8]
    refine s_iload_n hC dX5_findFault_8 rfl 3 rfl ?_
    refine s_aload_n hC dX5_findFault_9 rfl 0 rfl ?_
    refine s_get (b := b) hC hK hI (by decide) o_Model rfl q_w_X5 8 (by decide) q_f_X5_145 rfl dX5_findFault_10 ?_
    refine s_icmp_ge (tgt := 246) hC dX5_findFault_13 (by decide) hx5 (hσ 0 8) ?_ ?_
    · refine s_sub (L' := [(0, .ref (b + 0)), (2, vI x4)]) [0, 2] rfl ?_
      exact hj1 x4 hx4
    · refine s_aload_n hC dX5_findFault_16 rfl 0 rfl ?_
      refine s_get (b := b) hC hK hI (by decide) o_Model rfl q_w_X5 7 (by decide) q_f_X5_28 rfl dX5_findFault_17 ?_
      refine s_iload_n hC dX5_findFault_20 rfl 3 rfl ?_
      refine s_iaload hC hK hI hσ (by decide) a_Model_7 dX5_findFault_21 (fun v6 hv6 => ?_)
      refine s_istore (L' := [(4, vI v6), (0, .ref (b + 0)), (1, vI x3), (2, vI x4), (3, vI x5)]) hC dX5_findFault_22 (by decide) rfl ?_
      refine s_iload hC dX5_findFault_24 0 rfl ?_
      refine s_bipush hC dX5_findFault_26 (by decide) ?_
      refine s_bipush hC dX5_findFault_28 (by decide) ?_
      refine s_callS_P (As := [vI v6, vI 48, vI 57]) (rest := []) hC hKA 3 (m_X5_within (I := I) hv6 (inR_c _ rfl) (inR_c _ rfl)) rfl (cb_of hC 3 q_c_yX5_within q_i_X5 q_m_X5_130 rfl rfl dd_yX5_within ⟨Nat.le_of_ble_eq_true rfl, Nat.le_of_ble_eq_true rfl⟩) q_s_yX5_within rfl (Nat.le_of_ble_eq_true rfl) dX5_findFault_30 ⟨Nat.zero_le _, Nat.zero_le _⟩ (fun r7 hr7 => ?_)
      refine s_jp_I 63 (fun x9 => [(0, .ref (b + 0)), (1, vI x3), (2, vI x4), (3, vI x5), (4, vI v6)]) (fun x9 => [vI x9]) (fun x9 hx9 => ?_) (fun j8 hj8 => ?_)
      · refine s_istore (L' := [(5, vI x9), (0, .ref (b + 0)), (1, vI x3), (2, vI x4), (3, vI x5), (4, vI v6)]) hC dX5_findFault_63 (by decide) rfl ?_
        refine s_iload hC dX5_findFault_65 5 rfl ?_
        refine s_bipush hC dX5_findFault_67 (by decide) ?_
        refine s_jp_I 89 (fun x11 => [(0, .ref (b + 0)), (1, vI x3), (2, vI x4), (3, vI x5), (4, vI v6), (5, vI x9)]) (fun x11 => [vI x11]) (fun x11 hx11 => ?_) (fun j10 hj10 => ?_)
        · refine s_istore (L' := [(6, vI x11), (0, .ref (b + 0)), (1, vI x3), (2, vI x4), (3, vI x5), (4, vI v6), (5, vI x9)]) hC dX5_findFault_89 (by decide) rfl ?_
          refine s_iload hC dX5_findFault_91 5 rfl ?_
          refine s_bipush hC dX5_findFault_93 (by decide) ?_
          refine s_bipush hC dX5_findFault_95 (by decide) ?_
          refine s_callS_P (As := [vI v6, vI 97, vI 122]) (rest := []) hC hKA 3 (m_X5_within (I := I) hv6 (inR_c _ rfl) (inR_c _ rfl)) rfl (cb_of hC 3 q_c_yX5_within q_i_X5 q_m_X5_130 rfl rfl dd_yX5_within ⟨Nat.le_of_ble_eq_true rfl, Nat.le_of_ble_eq_true rfl⟩) q_s_yX5_within rfl (Nat.le_of_ble_eq_true rfl) dX5_findFault_97 ⟨Nat.zero_le _, Nat.zero_le _⟩ (fun r12 hr12 => ?_)
          refine s_jp_I 120 (fun x14 => [(0, .ref (b + 0)), (1, vI x3), (2, vI x4), (3, vI x5), (4, vI v6), (5, vI x9), (6, vI x11)]) (fun x14 => [vI x14]) (fun x14 hx14 => ?_) (fun j13 hj13 => ?_)
          · refine s_istore (L' := [(7, vI x14), (0, .ref (b + 0)), (1, vI x3), (2, vI x4), (3, vI x5), (4, vI v6), (5, vI x9), (6, vI x11)]) hC dX5_findFault_120 (by decide) rfl ?_
            refine s_iload hC dX5_findFault_122 5 rfl ?_
            refine s_bipush hC dX5_findFault_124 (by decide) ?_
            refine s_jp_I 140 (fun x16 => [(0, .ref (b + 0)), (1, vI x3), (2, vI x4), (3, vI x5), (4, vI v6), (5, vI x9), (6, vI x11), (7, vI x14)]) (fun x16 => [vI x16]) (fun x16 hx16 => ?_) (fun j15 hj15 => ?_)
            · refine s_istore (L' := [(8, vI x16), (0, .ref (b + 0)), (1, vI x3), (2, vI x4), (3, vI x5), (4, vI v6), (5, vI x9), (6, vI x11), (7, vI x14)]) hC dX5_findFault_140 (by decide) rfl ?_
              refine s_iload hC dX5_findFault_142 6 rfl ?_
              refine s_jp_ 164 ([(0, .ref (b + 0)), (1, vI x3), (2, vI x4), (3, vI x5), (4, vI v6), (5, vI x9), (6, vI x11), (7, vI x14), (8, vI x16)]) ([]) ?_ (fun j17 hj17 => ?_)
              · refine s_iload hC dX5_findFault_164 8 rfl ?_
                refine s_jp_I 207 (fun x19 => [(0, .ref (b + 0)), (2, vI x4), (3, vI x5), (6, vI x11), (7, vI x14), (8, vI x16)]) (fun x19 => [vI x19]) (fun x19 hx19 => ?_) (fun j18 hj18 => ?_)
                · refine s_istore_n (L' := [(1, vI x19), (0, .ref (b + 0)), (2, vI x4), (3, vI x5), (6, vI x11), (7, vI x14), (8, vI x16)]) hC dX5_findFault_207 rfl (by decide) rfl ?_
                  refine s_iload hC dX5_findFault_208 6 rfl ?_
                  refine s_jp_I 239 (fun x21 => [(0, .ref (b + 0)), (1, vI x19), (3, vI x5)]) (fun x21 => [vI x21]) (fun x21 hx21 => ?_) (fun j20 hj20 => ?_)
                  · refine s_istore_n (L' := [(2, vI x21), (0, .ref (b + 0)), (1, vI x19), (3, vI x5)]) hC dX5_findFault_239 rfl (by decide) rfl ?_
                    refine s_iincK hC dX5_findFault_240 3 rfl (by decide) (fun v22 => [(3, vI v22), (2, vI x21), (0, .ref (b + 0)), (1, vI x19)]) (fun _ => rfl) (fun v22 hv22 => ?_)
                    refine s_goto (tgt := 8) hC dX5_findFault_243 (by decide) ?_
                    refine s_sub (L' := [(0, .ref (b + 0)), (1, vI x19), (2, vI x21), (3, vI v22)]) [2, 3, 1, 0] rfl ?_
                    exact ih8 x19 x21 v22 hx19 hx21 hv22
                  · refine s_if_eq (tgt := 218) hC dX5_findFault_210 (by decide) hx16 ?_ ?_
                    · refine s_sub (L' := [(0, .ref (b + 0)), (1, vI x19), (2, vI x4), (3, vI x5), (6, vI x11), (7, vI x14)]) [1, 0, 2, 3, 4, 5] rfl ?_
                      refine s_iload hC dX5_findFault_218 4 rfl ?_
                      refine s_if_eq (tgt := 227) hC dX5_findFault_220 (by decide) hx11 ?_ ?_
                      · refine s_sub (L' := [(0, .ref (b + 0)), (1, vI x19), (2, vI x4), (3, vI x5), (7, vI x14)]) [0, 1, 2, 3, 5] rfl ?_
                        refine s_iload hC dX5_findFault_227 4 rfl ?_
                        refine s_if_eq (tgt := 238) hC dX5_findFault_229 (by decide) hx14 ?_ ?_
                        · refine s_sub (L' := [(0, .ref (b + 0)), (1, vI x19), (2, vI x4), (3, vI x5)]) [0, 1, 2, 3] rfl ?_
                          refine s_iload_n hC dX5_findFault_238 rfl 2 rfl ?_
                          refine s_sub (L' := [(0, .ref (b + 0)), (1, vI x19), (3, vI x5)]) [0, 1, 3] rfl ?_
                          exact hj20 x4 hx4
                        · refine s_sub (L' := [(0, .ref (b + 0)), (1, vI x19), (2, vI x4), (3, vI x5)]) [0, 1, 2, 3] rfl ?_
                          refine s_iload_n hC dX5_findFault_232 rfl 2 rfl ?_
                          refine s_iconst hC dX5_findFault_233 ?_
                          refine s_iadd hC dX5_findFault_234 ?_
                          refine s_goto (tgt := 239) hC dX5_findFault_235 (by decide) ?_
                          refine s_ck0 (fun v23 hv23 => ?_)
                          refine s_sub (L' := [(0, .ref (b + 0)), (1, vI x19), (3, vI x5)]) [0, 1, 3] rfl ?_
                          exact hj20 v23 hv23
                      · refine s_sub (L' := [(0, .ref (b + 0)), (1, vI x19), (3, vI x5)]) [0, 1, 3] rfl ?_
                        refine s_iconst hC dX5_findFault_223 ?_
                        refine s_goto (tgt := 239) hC dX5_findFault_224 (by decide) ?_
                        exact hj20 0 (inR_c _ rfl)
                    · refine s_sub (L' := [(0, .ref (b + 0)), (1, vI x19), (3, vI x5)]) [1, 0, 3] rfl ?_
                      refine s_bipush hC dX5_findFault_213 (by decide) ?_
                      refine s_goto (tgt := 239) hC dX5_findFault_215 (by decide) ?_
                      exact hj20 ((-6)) (inR_c _ rfl)
                · refine s_if_eq (tgt := 174) hC dX5_findFault_166 (by decide) hx16 ?_ ?_
                  · refine s_iload hC dX5_findFault_174 5 rfl ?_
                    refine s_if_ne (tgt := 183) hC dX5_findFault_176 (by decide) hx9 ?_ ?_
                    · refine s_sub (L' := [(0, .ref (b + 0)), (1, vI x3), (2, vI x4), (3, vI x5), (4, vI v6), (6, vI x11), (7, vI x14), (8, vI x16)]) [0, 1, 2, 3, 4, 6, 7, 8] rfl ?_
                      refine s_iload_n hC dX5_findFault_183 rfl 1 rfl ?_
                      refine s_bipush hC dX5_findFault_184 (by decide) ?_
                      refine s_icmp_ne (tgt := 197) hC dX5_findFault_186 (by decide) hx3 (inR_c _ rfl) ?_ ?_
                      · refine s_bipush hC dX5_findFault_197 (by decide) ?_
                        refine s_iload_n hC dX5_findFault_199 rfl 1 rfl ?_
                        refine s_imul hC dX5_findFault_200 ?_
                        refine s_iload hC dX5_findFault_201 4 rfl ?_
                        refine s_iadd hC dX5_findFault_203 ?_
                        refine s_bipush hC dX5_findFault_204 (by decide) ?_
                        refine s_isub hC dX5_findFault_206 ?_
                        refine s_ck0 (fun v24 hv24 => ?_)
                        refine s_sub (L' := [(0, .ref (b + 0)), (2, vI x4), (3, vI x5), (6, vI x11), (7, vI x14), (8, vI x16)]) [0, 2, 3, 5, 6, 7] rfl ?_
                        exact hj18 v24 hv24
                      · refine s_sub (L' := [(0, .ref (b + 0)), (2, vI x4), (3, vI x5), (4, vI v6), (6, vI x11), (7, vI x14), (8, vI x16)]) [0, 2, 3, 4, 5, 6, 7] rfl ?_
                        refine s_iload hC dX5_findFault_189 3 rfl ?_
                        refine s_bipush hC dX5_findFault_191 (by decide) ?_
                        refine s_isub hC dX5_findFault_193 ?_
                        refine s_goto (tgt := 207) hC dX5_findFault_194 (by decide) ?_
                        refine s_ck0 (fun v25 hv25 => ?_)
                        refine s_sub (L' := [(0, .ref (b + 0)), (2, vI x4), (3, vI x5), (6, vI x11), (7, vI x14), (8, vI x16)]) [0, 1, 2, 4, 5, 6] rfl ?_
                        exact hj18 v25 hv25
                    · refine s_sub (L' := [(0, .ref (b + 0)), (1, vI x3), (2, vI x4), (3, vI x5), (6, vI x11), (7, vI x14), (8, vI x16)]) [0, 1, 2, 3, 6, 7, 8] rfl ?_
                      refine s_iload_n hC dX5_findFault_179 rfl 1 rfl ?_
                      refine s_goto (tgt := 207) hC dX5_findFault_180 (by decide) ?_
                      refine s_sub (L' := [(0, .ref (b + 0)), (2, vI x4), (3, vI x5), (6, vI x11), (7, vI x14), (8, vI x16)]) [0, 2, 3, 4, 5, 6] rfl ?_
                      exact hj18 x3 hx3
                  · refine s_sub (L' := [(0, .ref (b + 0)), (2, vI x4), (3, vI x5), (6, vI x11), (7, vI x14), (8, vI x16)]) [0, 2, 3, 6, 7, 8] rfl ?_
                    refine s_bipush hC dX5_findFault_169 (by decide) ?_
                    refine s_goto (tgt := 207) hC dX5_findFault_171 (by decide) ?_
                    exact hj18 ((-6)) (inR_c _ rfl)
              · refine s_if_ne (tgt := 164) hC dX5_findFault_144 (by decide) hx9 ?_ ?_
                · refine s_sub (L' := [(0, .ref (b + 0)), (1, vI x3), (2, vI x4), (3, vI x5), (4, vI v6), (5, vI x9), (6, vI x11), (7, vI x14), (8, vI x16)]) [1, 2, 3, 4, 5, 6, 7, 8, 0] rfl ?_
                  exact hj17
                · refine s_sub (L' := [(0, .ref (b + 0)), (1, vI x3), (2, vI x4), (3, vI x5), (4, vI v6), (5, vI x9), (6, vI x11), (7, vI x14), (8, vI x16)]) [1, 2, 3, 4, 5, 6, 7, 8, 0] rfl ?_
                  refine s_iload hC dX5_findFault_147 6 rfl ?_
                  refine s_if_ne (tgt := 164) hC dX5_findFault_149 (by decide) hx11 ?_ ?_
                  · exact hj17
                  · refine s_iload hC dX5_findFault_152 7 rfl ?_
                    refine s_if_ne (tgt := 164) hC dX5_findFault_154 (by decide) hx14 ?_ ?_
                    · exact hj17
                    · refine s_iload hC dX5_findFault_157 8 rfl ?_
                      refine s_if_ne (tgt := 164) hC dX5_findFault_159 (by decide) hx16 ?_ ?_
                      · exact hj17
                      · refine s_sub (L' := [(3, vI x5)]) [3] rfl ?_
                        refine s_iload_n hC dX5_findFault_162 rfl 0 rfl ?_
                        exact s_iret hC hr dX5_findFault_163 (fun H hH => ⟨rfl, hx5, hH⟩)
            · refine s_icmp_ne (tgt := 139) hC dX5_findFault_126 (by decide) hv6 (inR_c _ rfl) ?_ ?_
              · refine s_sub (L' := [(0, .ref (b + 0)), (1, vI x3), (2, vI x4), (3, vI x5), (4, vI v6), (5, vI x9), (6, vI x11), (7, vI x14)]) [1, 2, 3, 4, 5, 6, 7, 0] rfl ?_
                refine s_iconst hC dX5_findFault_139 ?_
                exact hj15 0 (inR_c _ rfl)
              · refine s_sub (L' := [(0, .ref (b + 0)), (1, vI x3), (2, vI x4), (3, vI x5), (4, vI v6), (5, vI x9), (6, vI x11), (7, vI x14)]) [1, 2, 3, 4, 5, 6, 7, 0] rfl ?_
                refine s_iload_n hC dX5_findFault_129 rfl 2 rfl ?_
                refine s_bipush hC dX5_findFault_130 (by decide) ?_
                refine s_icmp_eq (tgt := 139) hC dX5_findFault_132 (by decide) hx4 (inR_c _ rfl) ?_ ?_
                · refine s_iconst hC dX5_findFault_139 ?_
                  exact hj15 0 (inR_c _ rfl)
                · refine s_iconst hC dX5_findFault_135 ?_
                  refine s_goto (tgt := 140) hC dX5_findFault_136 (by decide) ?_
                  exact hj15 1 (inR_c _ rfl)
          · refine s_if_eq (tgt := 119) hC dX5_findFault_100 (by decide) hr12 ?_ ?_
            · refine s_sub (L' := [(0, .ref (b + 0)), (1, vI x3), (2, vI x4), (3, vI x5), (4, vI v6), (5, vI x9), (6, vI x11)]) [1, 2, 3, 4, 5, 6, 0] rfl ?_
              refine s_iconst hC dX5_findFault_119 ?_
              exact hj13 0 (inR_c _ rfl)
            · refine s_sub (L' := [(0, .ref (b + 0)), (1, vI x3), (2, vI x4), (3, vI x5), (4, vI v6), (5, vI x9), (6, vI x11)]) [1, 2, 3, 4, 5, 6, 0] rfl ?_
              refine s_iload_n hC dX5_findFault_103 rfl 2 rfl ?_
              refine s_bipush hC dX5_findFault_104 (by decide) ?_
              refine s_icmp_eq (tgt := 119) hC dX5_findFault_106 (by decide) hx4 (inR_c _ rfl) ?_ ?_
              · refine s_iconst hC dX5_findFault_119 ?_
                exact hj13 0 (inR_c _ rfl)
              · refine s_iload_n hC dX5_findFault_109 rfl 2 rfl ?_
                refine s_bipush hC dX5_findFault_110 (by decide) ?_
                refine s_icmp_ge (tgt := 119) hC dX5_findFault_112 (by decide) hx4 (inR_c _ rfl) ?_ ?_
                · refine s_iconst hC dX5_findFault_119 ?_
                  exact hj13 0 (inR_c _ rfl)
                · refine s_iconst hC dX5_findFault_115 ?_
                  refine s_goto (tgt := 120) hC dX5_findFault_116 (by decide) ?_
                  exact hj13 1 (inR_c _ rfl)
        · refine s_icmp_ne (tgt := 88) hC dX5_findFault_69 (by decide) hv6 (inR_c _ rfl) ?_ ?_
          · refine s_sub (L' := [(0, .ref (b + 0)), (1, vI x3), (2, vI x4), (3, vI x5), (4, vI v6), (5, vI x9)]) [1, 2, 3, 4, 5, 0] rfl ?_
            refine s_iconst hC dX5_findFault_88 ?_
            exact hj10 0 (inR_c _ rfl)
          · refine s_sub (L' := [(0, .ref (b + 0)), (1, vI x3), (2, vI x4), (3, vI x5), (4, vI v6), (5, vI x9)]) [1, 2, 3, 4, 5, 0] rfl ?_
            refine s_iload_n hC dX5_findFault_72 rfl 2 rfl ?_
            refine s_bipush hC dX5_findFault_73 (by decide) ?_
            refine s_icmp_ne (tgt := 88) hC dX5_findFault_75 (by decide) hx4 (inR_c _ rfl) ?_ ?_
            · refine s_iconst hC dX5_findFault_88 ?_
              exact hj10 0 (inR_c _ rfl)
            · refine s_iload_n hC dX5_findFault_78 rfl 1 rfl ?_
              refine s_bipush hC dX5_findFault_79 (by decide) ?_
              refine s_icmp_eq (tgt := 88) hC dX5_findFault_81 (by decide) hx3 (inR_c _ rfl) ?_ ?_
              · refine s_iconst hC dX5_findFault_88 ?_
                exact hj10 0 (inR_c _ rfl)
              · refine s_iconst hC dX5_findFault_84 ?_
                refine s_goto (tgt := 89) hC dX5_findFault_85 (by decide) ?_
                exact hj10 1 (inR_c _ rfl)
      · refine s_if_eq (tgt := 62) hC dX5_findFault_33 (by decide) hr7 ?_ ?_
        · refine s_sub (L' := [(0, .ref (b + 0)), (1, vI x3), (2, vI x4), (3, vI x5), (4, vI v6)]) [1, 2, 3, 4, 0] rfl ?_
          refine s_iconst hC dX5_findFault_62 ?_
          exact hj8 0 (inR_c _ rfl)
        · refine s_sub (L' := [(0, .ref (b + 0)), (1, vI x3), (2, vI x4), (3, vI x5), (4, vI v6)]) [1, 2, 3, 4, 0] rfl ?_
          refine s_iload_n hC dX5_findFault_36 rfl 2 rfl ?_
          refine s_bipush hC dX5_findFault_37 (by decide) ?_
          refine s_icmp_ne (tgt := 62) hC dX5_findFault_39 (by decide) hx4 (inR_c _ rfl) ?_ ?_
          · refine s_iconst hC dX5_findFault_62 ?_
            exact hj8 0 (inR_c _ rfl)
          · refine s_iload_n hC dX5_findFault_42 rfl 1 rfl ?_
            refine s_bipush hC dX5_findFault_43 (by decide) ?_
            refine s_icmp_eq (tgt := 58) hC dX5_findFault_45 (by decide) hx3 (inR_c _ rfl) ?_ ?_
            · refine s_iconst hC dX5_findFault_58 ?_
              refine s_goto (tgt := 63) hC dX5_findFault_59 (by decide) ?_
              exact hj8 1 (inR_c _ rfl)
            · refine s_iload_n hC dX5_findFault_48 rfl 1 rfl ?_
              refine s_if_le (tgt := 62) hC dX5_findFault_49 (by decide) hx3 ?_ ?_
              · refine s_iconst hC dX5_findFault_62 ?_
                exact hj8 0 (inR_c _ rfl)
              · refine s_iload_n hC dX5_findFault_52 rfl 1 rfl ?_
                refine s_bipush hC dX5_findFault_53 (by decide) ?_
                refine s_icmp_ge (tgt := 62) hC dX5_findFault_55 (by decide) hx3 (inR_c _ rfl) ?_ ?_
                · refine s_iconst hC dX5_findFault_62 ?_
                  exact hj8 0 (inR_c _ rfl)
                · refine s_iconst hC dX5_findFault_58 ?_
                  refine s_goto (tgt := 63) hC dX5_findFault_59 (by decide) ?_
                  exact hj8 1 (inR_c _ rfl)
set_option maxHeartbeats 4000000 in
set_option maxRecDepth 100000 in
theorem m_X5_write {l : Launch} {G : Gt} {b : Nat} {σ : Blk} {J : Blk → Heap → Prop} (hJ : Wd G (layModel G b) 10 b J) (hσ : Rg σ)  : MetS l yX5_write cX5_write 5 (some .int) { frames := 7, cells := 0, slots := 0, locals := 156 } G [.ref (b + 0)] (J σ) (poW J) (Ab b 10) 0 0 (f_X5_write σ) := by
  refine met_of (by decide) (Nat.le_of_ble_eq_true rfl) ?_
  intro p e s m below meth c hC hKA hr _
  have hK := hKA.1
  unfold f_X5_write
  refine s_sub (L' := [(0, .ref (b + 0))]) [0] rfl ?_
  refine s_aload_n hC dX5_write_0 rfl 0 rfl ?_
  refine s_callV_P (As := []) (rest := []) (a := b + 0) hC hKA 0 (m_X5_findFault (hJ.1 σ) hσ) rfl (cb_of hC 0 q_c_yX5_findFault q_i_X5 q_m_X5_142 rfl rfl dd_yX5_findFault ⟨Nat.le_of_ble_eq_true rfl, Nat.le_of_ble_eq_true rfl⟩) q_i_yX5_findFault q_x_yX5_findFault (s_recv hK (hJ.1 σ) (by decide) o_Model rfl) rfl (Nat.le_of_ble_eq_true rfl) dX5_write_1 ⟨Nat.zero_le _, Nat.zero_le _⟩ (fun r1 hr1 => ?_)
  refine s_bipush hC dX5_write_4 (by decide) ?_
  refine s_icmp_eq (tgt := 12) hC dX5_write_6 (by decide) hr1 (inR_c _ rfl) ?_ ?_
  · refine s_aload_n hC dX5_write_12 rfl 0 rfl ?_
    refine s_aload_n hC dX5_write_13 rfl 0 rfl ?_
    refine s_get (b := b) hC hK (hJ.1 σ) (by decide) o_Model rfl q_w_X5 0 (by decide) q_f_X5_7 rfl dX5_write_14 ?_
    refine s_callV_U (As := [.ref (b + 1)]) (rest := []) (a := b + 0) hC hKA 1 (m_X5_record hJ hσ (by decide) a_Model_1) (fun _ h => h) rfl (cb_of hC 1 q_c_yX5_record q_i_X5 q_m_X5_138 rfl rfl dd_yX5_record ⟨Nat.le_of_ble_eq_true rfl, Nat.le_of_ble_eq_true rfl⟩) q_i_yX5_record q_x_yX5_record (s_recv hK (hJ.1 σ) (by decide) o_Model rfl) rfl (Nat.le_of_ble_eq_true rfl) dX5_write_17 ⟨Nat.zero_le _, Nat.zero_le _⟩ (fun σ2 hσ2 => ?_)
    refine s_iconst hC dX5_write_20 ?_
    refine s_istore_n (L' := [(1, vI 0), (0, .ref (b + 0))]) hC dX5_write_21 rfl (by decide) rfl ?_
    refine s_iconst hC dX5_write_22 ?_
    refine s_istore_n (L' := [(2, vI 0), (1, vI 0), (0, .ref (b + 0))]) hC dX5_write_23 rfl (by decide) rfl ?_
    refine s_iconst hC dX5_write_24 ?_
    refine s_istore_n (L' := [(3, vI 1), (2, vI 0), (1, vI 0), (0, .ref (b + 0))]) hC dX5_write_25 rfl (by decide) rfl ?_
    refine s_sub (L' := [(0, .ref (b + 0)), (1, vI 0), (2, vI 0), (3, vI 1)]) [3, 2, 1, 0] rfl ?_
    refine s_jp_IB (J := J) 161 (fun x4 => [(0, .ref (b + 0)), (1, vI x4)]) (fun x4 => []) (fun x4 σ5 hx4 hσ5 => ?_) (fun j3 hj3 => ?_)
    · refine s_aload_n hC dX5_write_161 rfl 0 rfl ?_
      refine s_iconst hC dX5_write_162 ?_
      refine s_putP (ty := .int) hC hK hJ (fun _ h => h) hσ5 (inR_c _ rfl) (by decide) o_Model rfl q_w_X5 tyX5_ok nmX5 8 (by decide) q_f_X5_145 rfl (by decide +kernel) rfl rfl (fun _ => Nat.le_of_ble_eq_true rfl) u_Model_8 dX5_write_163 (fun σ6 hσ6 => ?_)
      refine s_iload_n hC dX5_write_166 rfl 1 rfl ?_
      exact s_iret hC hr dX5_write_167 (fun H hH => ⟨rfl, hx4, hσ6, hH⟩)
    · refine s_lp_IIIB (J := J) (F := f_X5_write_L26 j3) 26 (fun x7 x8 x9 => [(0, .ref (b + 0)), (1, vI x7), (2, vI x8), (3, vI x9)]) (fun _ _ _ _ => rfl) (fun n ih26 x7 x8 x9 σ10 hx7 hx8 hx9 hσ10 => ?_) fu 0 0 1 σ2 (inR_c _ rfl) (inR_c _ rfl) (inR_c _ rfl) hσ2
      rw [f_X5_write_L26]
      refine s_iload_n hC dX5_write_26 rfl 3 rfl ?_
      refine s_if_eq (tgt := 161) hC dX5_write_27 (by decide) hx9 ?_ ?_
      · refine s_sub (L' := [(0, .ref (b + 0)), (1, vI x7)]) [0, 1] rfl ?_
        exact hj3 x7 σ10 hx7 hσ10
      · refine s_sub (L' := [(0, .ref (b + 0)), (1, vI x7), (2, vI x8)]) [0, 1, 2] rfl ?_
        refine s_iload_n hC dX5_write_30 rfl 2 rfl ?_
        refine s_aload_n hC dX5_write_31 rfl 0 rfl ?_
        refine s_get (b := b) hC hK (hJ.1 σ10) (by decide) o_Model rfl q_w_X5 8 (by decide) q_f_X5_145 rfl dX5_write_32 ?_
        refine s_icmp_ge (tgt := 161) hC dX5_write_35 (by decide) hx8 (hσ10 0 8) ?_ ?_
        · refine s_sub (L' := [(0, .ref (b + 0)), (1, vI x7)]) [0, 1] rfl ?_
          exact hj3 x7 σ10 hx7 hσ10
        · refine s_iconst hC dX5_write_38 ?_
          refine s_istore (L' := [(4, vI 0), (0, .ref (b + 0)), (1, vI x7), (2, vI x8)]) hC dX5_write_39 (by decide) rfl ?_
          refine s_sub (L' := [(0, .ref (b + 0)), (1, vI x7), (2, vI x8), (4, vI 0)]) [1, 2, 3, 0] rfl ?_
          refine s_jp_II 75 (fun x12 x13 => [(0, .ref (b + 0)), (1, vI x7), (2, vI x12), (4, vI x13)]) (fun x12 x13 => []) (fun x12 x13 hx12 hx13 => ?_) (fun j11 hj11 => ?_)
          · refine s_iincK hC dX5_write_75 2 rfl (by decide) (fun v14 => [(2, vI v14), (0, .ref (b + 0)), (1, vI x7), (4, vI x13)]) (fun _ => rfl) (fun v14 hv14 => ?_)
            refine s_aload_n hC dX5_write_78 rfl 1 rfl ?_
            refine s_iconst hC dX5_write_79 ?_
            refine s_putP (ty := .int) hC hK hJ (fun _ h => h) hσ10 (inR_c _ rfl) (by decide) o_Model rfl q_w_X5 tyX5_ok nmX5 10 (by decide) q_f_X5_85 rfl (by decide +kernel) rfl rfl (fun _ => Nat.le_of_ble_eq_true rfl) u_Model_10 dX5_write_80 (fun σ15 hσ15 => ?_)
            refine s_sub (L' := [(0, .ref (b + 0)), (1, vI x7), (2, vI v14), (4, vI x13)]) [1, 2, 0, 3] rfl ?_
            refine s_jp_IB (J := J) 136 (fun x17 => [(0, .ref (b + 0)), (1, vI x7), (2, vI x17), (4, vI x13)]) (fun x17 => []) (fun x17 σ18 hx17 hσ18 => ?_) (fun j16 hj16 => ?_)
            · refine s_iincK hC dX5_write_136 2 rfl (by decide) (fun v19 => [(2, vI v19), (0, .ref (b + 0)), (1, vI x7), (4, vI x13)]) (fun _ => rfl) (fun v19 hv19 => ?_)
              refine s_aload_n hC dX5_write_139 rfl 1 rfl ?_
              refine s_iload hC dX5_write_140 3 rfl ?_
              refine s_callV_W (As := [vI x13]) (rest := []) (a := b + 0) hC hKA 1 (m_X5_writes hJ hσ18 hx13) (fun _ h => h) rfl (cb_of hC 1 q_c_yX5_writes q_i_X5 q_m_X5_148 rfl rfl dd_yX5_writes ⟨Nat.le_of_ble_eq_true rfl, Nat.le_of_ble_eq_true rfl⟩) q_i_yX5_writes q_x_yX5_writes (s_recv hK (hJ.1 σ18) (by decide) o_Model rfl) rfl (Nat.le_of_ble_eq_true rfl) dX5_write_142 ⟨Nat.zero_le _, Nat.zero_le _⟩ (fun r20 σ21 hr20 hσ21 => ?_)
              refine s_istore_n (L' := [(3, vI r20), (2, vI v19), (0, .ref (b + 0)), (1, vI x7), (4, vI x13)]) hC dX5_write_145 rfl (by decide) rfl ?_
              refine s_iload_n hC dX5_write_146 rfl 3 rfl ?_
              refine s_iload_n hC dX5_write_147 rfl 0 rfl ?_
              refine s_jp_I 156 (fun x23 => [(0, .ref (b + 0)), (2, vI v19), (3, vI r20)]) (fun x23 => [vI x23, vI x7]) (fun x23 hx23 => ?_) (fun j22 hj22 => ?_)
              · refine s_iadd hC dX5_write_156 ?_
                refine s_ck0 (fun v24 hv24 => ?_)
                refine s_istore_n (L' := [(1, vI v24), (0, .ref (b + 0)), (2, vI v19), (3, vI r20)]) hC dX5_write_157 rfl (by decide) rfl ?_
                refine s_goto (tgt := 26) hC dX5_write_158 (by decide) ?_
                refine s_sub (L' := [(0, .ref (b + 0)), (1, vI v24), (2, vI v19), (3, vI r20)]) [1, 0, 2, 3] rfl ?_
                exact ih26 v24 v19 r20 σ21 hv24 hv19 hr20 hσ21
              · refine s_if_eq (tgt := 155) hC dX5_write_148 (by decide) hr20 ?_ ?_
                · refine s_sub (L' := [(0, .ref (b + 0)), (2, vI v19), (3, vI r20)]) [2, 1, 0] rfl ?_
                  refine s_iconst hC dX5_write_155 ?_
                  exact hj22 0 (inR_c _ rfl)
                · refine s_sub (L' := [(0, .ref (b + 0)), (2, vI v19), (3, vI r20)]) [2, 1, 0] rfl ?_
                  refine s_iconst hC dX5_write_151 ?_
                  refine s_goto (tgt := 156) hC dX5_write_152 (by decide) ?_
                  exact hj22 1 (inR_c _ rfl)
            · refine s_lp_IB (J := J) (F := f_X5_write_L83 j16) 83 (fun x25 => [(0, .ref (b + 0)), (1, vI x7), (2, vI x25), (4, vI x13)]) (fun _ _ => rfl) (fun n ih83 x25 σ26 hx25 hσ26 => ?_) fu v14 σ15 hv14 hσ15
              rw [f_X5_write_L83]
              refine s_iload_n hC dX5_write_83 rfl 2 rfl ?_
              refine s_aload_n hC dX5_write_84 rfl 0 rfl ?_
              refine s_get (b := b) hC hK (hJ.1 σ26) (by decide) o_Model rfl q_w_X5 8 (by decide) q_f_X5_145 rfl dX5_write_85 ?_
              refine s_icmp_ge (tgt := 136) hC dX5_write_88 (by decide) hx25 (hσ26 0 8) ?_ ?_
              · exact hj16 x25 σ26 hx25 hσ26
              · refine s_aload_n hC dX5_write_91 rfl 0 rfl ?_
                refine s_get (b := b) hC hK (hJ.1 σ26) (by decide) o_Model rfl q_w_X5 7 (by decide) q_f_X5_28 rfl dX5_write_92 ?_
                refine s_iload_n hC dX5_write_95 rfl 2 rfl ?_
                refine s_iaload hC hK (hJ.1 σ26) hσ26 (by decide) a_Model_7 dX5_write_96 (fun v27 hv27 => ?_)
                refine s_bipush hC dX5_write_97 (by decide) ?_
                refine s_icmp_eq (tgt := 136) hC dX5_write_99 (by decide) hv27 (inR_c _ rfl) ?_ ?_
                · exact hj16 x25 σ26 hx25 hσ26
                · refine s_aload_n hC dX5_write_102 rfl 0 rfl ?_
                  refine s_get (b := b) hC hK (hJ.1 σ26) (by decide) o_Model rfl q_w_X5 9 (by decide) q_f_X5_31 rfl dX5_write_103 ?_
                  refine s_aload_n hC dX5_write_106 rfl 0 rfl ?_
                  refine s_get (b := b) hC hK (hJ.1 σ26) (by decide) o_Model rfl q_w_X5 10 (by decide) q_f_X5_85 rfl dX5_write_107 ?_
                  refine s_aload_n hC dX5_write_110 rfl 0 rfl ?_
                  refine s_get (b := b) hC hK (hJ.1 σ26) (by decide) o_Model rfl q_w_X5 7 (by decide) q_f_X5_28 rfl dX5_write_111 ?_
                  refine s_iload_n hC dX5_write_114 rfl 2 rfl ?_
                  refine s_iaload hC hK (hJ.1 σ26) hσ26 (by decide) a_Model_7 dX5_write_115 (fun v28 hv28 => ?_)
                  refine s_bipush hC dX5_write_116 (by decide) ?_
                  refine s_isub hC dX5_write_118 ?_
                  refine s_ck0 (fun v29 hv29 => ?_)
                  refine s_iastore hC hK hJ (fun _ h => h) hσ26 hv29 (by decide) a_Model_8 dX5_write_119 (fun σ30 hσ30 => ?_)
                  refine s_aload_n hC dX5_write_120 rfl 0 rfl ?_
                  refine s_dup hC dX5_write_121 rfl ?_
                  refine s_get (b := b) hC hK (hJ.1 σ30) (by decide) o_Model rfl q_w_X5 10 (by decide) q_f_X5_85 rfl dX5_write_122 ?_
                  refine s_iconst hC dX5_write_125 ?_
                  refine s_iadd hC dX5_write_126 ?_
                  refine s_ck0 (fun v31 hv31 => ?_)
                  refine s_putP (ty := .int) hC hK hJ (fun _ h => h) hσ30 hv31 (by decide) o_Model rfl q_w_X5 tyX5_ok nmX5 10 (by decide) q_f_X5_85 rfl (by decide +kernel) rfl rfl (fun _ => Nat.le_of_ble_eq_true rfl) u_Model_10 dX5_write_127 (fun σ32 hσ32 => ?_)
                  refine s_iincK hC dX5_write_130 2 rfl (by decide) (fun v33 => [(2, vI v33), (0, .ref (b + 0)), (1, vI x7), (4, vI x13)]) (fun _ => rfl) (fun v33 hv33 => ?_)
                  refine s_goto (tgt := 83) hC dX5_write_133 (by decide) ?_
                  refine s_sub (L' := [(0, .ref (b + 0)), (1, vI x7), (2, vI v33), (4, vI x13)]) [1, 2, 0, 3] rfl ?_
                  exact ih83 v33 σ32 hv33 hσ32
          · refine s_lp_II (F := f_X5_write_L41 σ10 j11) 41 (fun x34 x35 => [(0, .ref (b + 0)), (1, vI x7), (2, vI x34), (4, vI x35)]) (fun _ _ => rfl) (fun n ih41 x34 x35 hx34 hx35 => ?_) fu x8 0 hx8 (inR_c _ rfl)
            rw [f_X5_write_L41]
            refine s_aload_n hC dX5_write_41 rfl 0 rfl ?_
            refine s_get (b := b) hC hK (hJ.1 σ10) (by decide) o_Model rfl q_w_X5 7 (by decide) q_f_X5_28 rfl dX5_write_42 ?_
            refine s_iload_n hC dX5_write_45 rfl 2 rfl ?_
            refine s_iaload hC hK (hJ.1 σ10) hσ10 (by decide) a_Model_7 dX5_write_46 (fun v36 hv36 => ?_)
            refine s_bipush hC dX5_write_47 (by decide) ?_
            refine s_icmp_eq (tgt := 75) hC dX5_write_49 (by decide) hv36 (inR_c _ rfl) ?_ ?_
            · exact hj11 x34 x35 hx34 hx35
            · refine s_bipush hC dX5_write_52 (by decide) ?_
              refine s_iload hC dX5_write_54 3 rfl ?_
              refine s_imul hC dX5_write_56 ?_
              refine s_aload_n hC dX5_write_57 rfl 0 rfl ?_
              refine s_get (b := b) hC hK (hJ.1 σ10) (by decide) o_Model rfl q_w_X5 7 (by decide) q_f_X5_28 rfl dX5_write_58 ?_
              refine s_iload_n hC dX5_write_61 rfl 2 rfl ?_
              refine s_iaload hC hK (hJ.1 σ10) hσ10 (by decide) a_Model_7 dX5_write_62 (fun v37 hv37 => ?_)
              refine s_iadd hC dX5_write_63 ?_
              refine s_bipush hC dX5_write_64 (by decide) ?_
              refine s_isub hC dX5_write_66 ?_
              refine s_ck0 (fun v38 hv38 => ?_)
              refine s_istore (L' := [(4, vI v38), (0, .ref (b + 0)), (1, vI x7), (2, vI x34)]) hC dX5_write_67 (by decide) rfl ?_
              refine s_iincK hC dX5_write_69 3 rfl (by decide) (fun v39 => [(2, vI v39), (4, vI v38), (0, .ref (b + 0)), (1, vI x7)]) (fun _ => rfl) (fun v39 hv39 => ?_)
              refine s_goto (tgt := 41) hC dX5_write_72 (by decide) ?_
              refine s_sub (L' := [(0, .ref (b + 0)), (1, vI x7), (2, vI v39), (4, vI v38)]) [2, 3, 0, 1] rfl ?_
              exact ih41 v39 v38 hv39 hv38
  · refine s_sub (L' := []) [] rfl ?_
    refine s_bipush hC dX5_write_9 (by decide) ?_
    exact s_iret hC hr dX5_write_11 (fun H hH => ⟨rfl, (inR_c _ rfl), hσ, hH⟩)
set_option maxHeartbeats 4000000 in
set_option maxRecDepth 100000 in
theorem m_X5_append {l : Launch} {G : Gt} {b : Nat} {σ : Blk} {J : Blk → Heap → Prop} (hJ : Wd G (layModel G b) 10 b J) (hσ : Rg σ) {a1 : Int} (h1 : inR a1) {a2 : Int} (h2 : inR a2) : MetS l yX5_append cX5_append 4 (some .int) { frames := 7, cells := 0, slots := 0, locals := 156 } G [.ref (b + 0), vI a1, vI a2] (J σ) (poW J) (Ab b 10) 0 0 (f_X5_append σ a1 a2) := by
  refine met_of (by decide) (Nat.le_of_ble_eq_true rfl) ?_
  intro p e s m below meth c hC hKA hr _
  have hK := hKA.1
  unfold f_X5_append
  refine s_sub (L' := [(0, .ref (b + 0)), (1, vI a1), (2, vI a2)]) [0, 1, 2] rfl ?_
  refine s_aload_n hC dX5_append_0 rfl 0 rfl ?_
  refine s_iload_n hC dX5_append_1 rfl 1 rfl ?_
  refine s_callV_P (As := [vI a1]) (rest := []) (a := b + 0) hC hKA 1 (m_X5_rowWith (hJ.1 σ) hσ h1) rfl (cb_of hC 1 q_c_yX5_rowWith q_i_X5 q_m_X5_118 rfl rfl dd_yX5_rowWith ⟨Nat.le_of_ble_eq_true rfl, Nat.le_of_ble_eq_true rfl⟩) q_i_yX5_rowWith q_x_yX5_rowWith (s_recv hK (hJ.1 σ) (by decide) o_Model rfl) rfl (Nat.le_of_ble_eq_true rfl) dX5_append_2 ⟨Nat.zero_le _, Nat.zero_le _⟩ (fun r1 hr1 => ?_)
  refine s_istore_n (L' := [(3, vI r1), (0, .ref (b + 0)), (1, vI a1), (2, vI a2)]) hC dX5_append_5 rfl (by decide) rfl ?_
  refine s_iload_n hC dX5_append_6 rfl 0 rfl ?_
  refine s_bipush hC dX5_append_7 (by decide) ?_
  refine s_icmp_ne (tgt := 14) hC dX5_append_9 (by decide) hr1 (inR_c _ rfl) ?_ ?_
  · refine s_sub (L' := [(0, .ref (b + 0)), (1, vI a1), (2, vI a2), (3, vI r1)]) [1, 2, 3, 0] rfl ?_
    refine s_iload_n hC dX5_append_14 rfl 2 rfl ?_
    refine s_iconst hC dX5_append_15 ?_
    refine s_bipush hC dX5_append_16 (by decide) ?_
    refine s_callS_P (As := [vI a2, vI 0, vI 25]) (rest := []) hC hKA 3 (m_X5_within (I := J σ) h2 (inR_c _ rfl) (inR_c _ rfl)) rfl (cb_of hC 3 q_c_yX5_within q_i_X5 q_m_X5_130 rfl rfl dd_yX5_within ⟨Nat.le_of_ble_eq_true rfl, Nat.le_of_ble_eq_true rfl⟩) q_s_yX5_within rfl (Nat.le_of_ble_eq_true rfl) dX5_append_18 ⟨Nat.zero_le _, Nat.zero_le _⟩ (fun r2 hr2 => ?_)
    refine s_if_ne (tgt := 27) hC dX5_append_21 (by decide) hr2 ?_ ?_
    · refine s_aload_n hC dX5_append_27 rfl 0 rfl ?_
      refine s_iload_n hC dX5_append_28 rfl 3 rfl ?_
      refine s_iconst hC dX5_append_29 ?_
      refine s_callV_P (As := [vI r1, vI 2]) (rest := []) (a := b + 0) hC hKA 2 (m_X5_part (hJ.1 σ) hσ hr1 (inR_c _ rfl)) rfl (cb_of hC 2 q_c_yX5_part q_i_X5 q_m_X5_61 rfl rfl dd_yX5_part ⟨Nat.le_of_ble_eq_true rfl, Nat.le_of_ble_eq_true rfl⟩) q_i_yX5_part q_x_yX5_part (s_recv hK (hJ.1 σ) (by decide) o_Model rfl) rfl (Nat.le_of_ble_eq_true rfl) dX5_append_30 ⟨Nat.zero_le _, Nat.zero_le _⟩ (fun r3 hr3 => ?_)
      refine s_bipush hC dX5_append_33 (by decide) ?_
      refine s_icmp_ne (tgt := 41) hC dX5_append_35 (by decide) hr3 (inR_c _ rfl) ?_ ?_
      · refine s_aload_n hC dX5_append_41 rfl 0 rfl ?_
        refine s_get (b := b) hC hK (hJ.1 σ) (by decide) o_Model rfl q_w_X5 0 (by decide) q_f_X5_7 rfl dX5_append_42 ?_
        refine s_iconst hC dX5_append_45 ?_
        refine s_aload_n hC dX5_append_46 rfl 0 rfl ?_
        refine s_get (b := b) hC hK (hJ.1 σ) (by decide) o_Model rfl q_w_X5 1 (by decide) q_f_X5_13 rfl dX5_append_47 ?_
        refine s_iconst hC dX5_append_50 ?_
        refine s_callS_U (As := [.ref (b + 1), vI 0, .ref (b + 2), vI 0]) (rest := []) hC hKA 4 (m_X5_moves hJ hσ (by decide) a_Model_1 (inR_c _ rfl) (by decide) a_Model_2 (inR_c _ rfl)) (fun _ h => h) rfl (cb_of hC 4 q_c_yX5_moves q_i_X5 q_m_X5_41 rfl rfl dd_yX5_moves ⟨Nat.le_of_ble_eq_true rfl, Nat.le_of_ble_eq_true rfl⟩) q_s_yX5_moves rfl (Nat.le_of_ble_eq_true rfl) dX5_append_51 ⟨Nat.zero_le _, Nat.zero_le _⟩ (fun σ4 hσ4 => ?_)
        refine s_aload_n hC dX5_append_54 rfl 0 rfl ?_
        refine s_iload_n hC dX5_append_55 rfl 3 rfl ?_
        refine s_callV_U (As := [vI r1]) (rest := []) (a := b + 0) hC hKA 1 (m_X5_takeText hJ hσ4 hr1) (fun _ h => h) rfl (cb_of hC 1 q_c_yX5_takeText q_i_X5 q_m_X5_151 rfl rfl dd_yX5_takeText ⟨Nat.le_of_ble_eq_true rfl, Nat.le_of_ble_eq_true rfl⟩) q_i_yX5_takeText q_x_yX5_takeText (s_recv hK (hJ.1 σ4) (by decide) o_Model rfl) rfl (Nat.le_of_ble_eq_true rfl) dX5_append_56 ⟨Nat.zero_le _, Nat.zero_le _⟩ (fun σ5 hσ5 => ?_)
        refine s_aload_n hC dX5_append_59 rfl 0 rfl ?_
        refine s_get (b := b) hC hK (hJ.1 σ5) (by decide) o_Model rfl q_w_X5 9 (by decide) q_f_X5_31 rfl dX5_append_60 ?_
        refine s_aload_n hC dX5_append_63 rfl 0 rfl ?_
        refine s_get (b := b) hC hK (hJ.1 σ5) (by decide) o_Model rfl q_w_X5 10 (by decide) q_f_X5_85 rfl dX5_append_64 ?_
        refine s_iload_n hC dX5_append_67 rfl 2 rfl ?_
        refine s_iastore hC hK hJ (fun _ h => h) hσ5 h2 (by decide) a_Model_8 dX5_append_68 (fun σ6 hσ6 => ?_)
        refine s_aload_n hC dX5_append_69 rfl 0 rfl ?_
        refine s_dup hC dX5_append_70 rfl ?_
        refine s_get (b := b) hC hK (hJ.1 σ6) (by decide) o_Model rfl q_w_X5 10 (by decide) q_f_X5_85 rfl dX5_append_71 ?_
        refine s_iconst hC dX5_append_74 ?_
        refine s_iadd hC dX5_append_75 ?_
        refine s_ck0 (fun v7 hv7 => ?_)
        refine s_putP (ty := .int) hC hK hJ (fun _ h => h) hσ6 hv7 (by decide) o_Model rfl q_w_X5 tyX5_ok nmX5 10 (by decide) q_f_X5_85 rfl (by decide +kernel) rfl rfl (fun _ => Nat.le_of_ble_eq_true rfl) u_Model_10 dX5_append_76 (fun σ8 hσ8 => ?_)
        refine s_aload_n hC dX5_append_79 rfl 0 rfl ?_
        refine s_iload_n hC dX5_append_80 rfl 1 rfl ?_
        refine s_callV_W (As := [vI a1]) (rest := []) (a := b + 0) hC hKA 1 (m_X5_writes hJ hσ8 h1) (fun _ h => h) rfl (cb_of hC 1 q_c_yX5_writes q_i_X5 q_m_X5_148 rfl rfl dd_yX5_writes ⟨Nat.le_of_ble_eq_true rfl, Nat.le_of_ble_eq_true rfl⟩) q_i_yX5_writes q_x_yX5_writes (s_recv hK (hJ.1 σ8) (by decide) o_Model rfl) rfl (Nat.le_of_ble_eq_true rfl) dX5_append_81 ⟨Nat.zero_le _, Nat.zero_le _⟩ (fun r9 σ10 hr9 hσ10 => ?_)
        refine s_if_ne (tgt := 90) hC dX5_append_84 (by decide) hr9 ?_ ?_
        · refine s_sub (L' := [(0, .ref (b + 0))]) [0] rfl ?_
          refine s_aload_n hC dX5_append_90 rfl 0 rfl ?_
          refine s_aload_n hC dX5_append_91 rfl 0 rfl ?_
          refine s_get (b := b) hC hK (hJ.1 σ10) (by decide) o_Model rfl q_w_X5 1 (by decide) q_f_X5_13 rfl dX5_append_92 ?_
          refine s_callV_U (As := [.ref (b + 2)]) (rest := []) (a := b + 0) hC hKA 1 (m_X5_record hJ hσ10 (by decide) a_Model_2) (fun _ h => h) rfl (cb_of hC 1 q_c_yX5_record q_i_X5 q_m_X5_138 rfl rfl dd_yX5_record ⟨Nat.le_of_ble_eq_true rfl, Nat.le_of_ble_eq_true rfl⟩) q_i_yX5_record q_x_yX5_record (s_recv hK (hJ.1 σ10) (by decide) o_Model rfl) rfl (Nat.le_of_ble_eq_true rfl) dX5_append_95 ⟨Nat.zero_le _, Nat.zero_le _⟩ (fun σ11 hσ11 => ?_)
          refine s_aload_n hC dX5_append_98 rfl 0 rfl ?_
          refine s_get (b := b) hC hK (hJ.1 σ11) (by decide) o_Model rfl q_w_X5 10 (by decide) q_f_X5_85 rfl dX5_append_99 ?_
          exact s_iret hC hr dX5_append_102 (fun H hH => ⟨rfl, (hσ11 0 10), hσ11, hH⟩)
        · refine s_sub (L' := []) [] rfl ?_
          refine s_bipush hC dX5_append_87 (by decide) ?_
          exact s_iret hC hr dX5_append_89 (fun H hH => ⟨rfl, (inR_c _ rfl), hσ10, hH⟩)
      · refine s_sub (L' := []) [] rfl ?_
        refine s_bipush hC dX5_append_38 (by decide) ?_
        exact s_iret hC hr dX5_append_40 (fun H hH => ⟨rfl, (inR_c _ rfl), hσ, hH⟩)
    · refine s_sub (L' := []) [] rfl ?_
      refine s_bipush hC dX5_append_24 (by decide) ?_
      exact s_iret hC hr dX5_append_26 (fun H hH => ⟨rfl, (inR_c _ rfl), hσ, hH⟩)
  · refine s_sub (L' := []) [] rfl ?_
    refine s_iconst hC dX5_append_12 ?_
    exact s_iret hC hr dX5_append_13 (fun H hH => ⟨rfl, (inR_c _ rfl), hσ, hH⟩)
set_option maxHeartbeats 4000000 in
set_option maxRecDepth 100000 in
theorem m_X5_delete {l : Launch} {G : Gt} {b : Nat} {σ : Blk} {J : Blk → Heap → Prop} (hJ : Wd G (layModel G b) 10 b J) (hσ : Rg σ) {a1 : Int} (h1 : inR a1) : MetS l yX5_delete cX5_delete 5 (some .int) { frames := 3, cells := 0, slots := 0, locals := 66 } G [.ref (b + 0), vI a1] (J σ) (poW J) (Ab b 10) 0 0 (f_X5_delete σ a1) := by
  refine met_of (by decide) (Nat.le_of_ble_eq_true rfl) ?_
  intro p e s m below meth c hC hKA hr _
  have hK := hKA.1
  unfold f_X5_delete
  refine s_sub (L' := [(0, .ref (b + 0)), (1, vI a1)]) [0, 1] rfl ?_
  refine s_aload_n hC dX5_delete_0 rfl 0 rfl ?_
  refine s_iload_n hC dX5_delete_1 rfl 1 rfl ?_
  refine s_callV_P (As := [vI a1]) (rest := []) (a := b + 0) hC hKA 1 (m_X5_rowWith (hJ.1 σ) hσ h1) rfl (cb_of hC 1 q_c_yX5_rowWith q_i_X5 q_m_X5_118 rfl rfl dd_yX5_rowWith ⟨Nat.le_of_ble_eq_true rfl, Nat.le_of_ble_eq_true rfl⟩) q_i_yX5_rowWith q_x_yX5_rowWith (s_recv hK (hJ.1 σ) (by decide) o_Model rfl) rfl (Nat.le_of_ble_eq_true rfl) dX5_delete_2 ⟨Nat.zero_le _, Nat.zero_le _⟩ (fun r1 hr1 => ?_)
  refine s_istore_n (L' := [(2, vI r1), (0, .ref (b + 0)), (1, vI a1)]) hC dX5_delete_5 rfl (by decide) rfl ?_
  refine s_iload_n hC dX5_delete_6 rfl 0 rfl ?_
  refine s_bipush hC dX5_delete_7 (by decide) ?_
  refine s_icmp_ne (tgt := 14) hC dX5_delete_9 (by decide) hr1 (inR_c _ rfl) ?_ ?_
  · refine s_sub (L' := [(0, .ref (b + 0)), (2, vI r1)]) [1, 0] rfl ?_
    refine s_aload_n hC dX5_delete_14 rfl 0 rfl ?_
    refine s_aload_n hC dX5_delete_15 rfl 0 rfl ?_
    refine s_get (b := b) hC hK (hJ.1 σ) (by decide) o_Model rfl q_w_X5 0 (by decide) q_f_X5_7 rfl dX5_delete_16 ?_
    refine s_callV_U (As := [.ref (b + 1)]) (rest := []) (a := b + 0) hC hKA 1 (m_X5_record hJ hσ (by decide) a_Model_1) (fun _ h => h) rfl (cb_of hC 1 q_c_yX5_record q_i_X5 q_m_X5_138 rfl rfl dd_yX5_record ⟨Nat.le_of_ble_eq_true rfl, Nat.le_of_ble_eq_true rfl⟩) q_i_yX5_record q_x_yX5_record (s_recv hK (hJ.1 σ) (by decide) o_Model rfl) rfl (Nat.le_of_ble_eq_true rfl) dX5_delete_19 ⟨Nat.zero_le _, Nat.zero_le _⟩ (fun σ2 hσ2 => ?_)
    refine s_aload_n hC dX5_delete_22 rfl 0 rfl ?_
    refine s_iload_n hC dX5_delete_23 rfl 1 rfl ?_
    refine s_callV_W (As := [vI r1]) (rest := []) (a := b + 0) hC hKA 1 (m_X5_cellsOfRow hJ hσ2 hr1) (fun _ h => h) rfl (cb_of hC 1 q_c_yX5_cellsOfRow q_i_X5 q_m_X5_154 rfl rfl dd_yX5_cellsOfRow ⟨Nat.le_of_ble_eq_true rfl, Nat.le_of_ble_eq_true rfl⟩) q_i_yX5_cellsOfRow q_x_yX5_cellsOfRow (s_recv hK (hJ.1 σ2) (by decide) o_Model rfl) rfl (Nat.le_of_ble_eq_true rfl) dX5_delete_24 ⟨Nat.zero_le _, Nat.zero_le _⟩ (fun r3 σ4 hr3 hσ4 => ?_)
    refine s_istore_n (L' := [(3, vI r3), (0, .ref (b + 0)), (2, vI r1)]) hC dX5_delete_27 rfl (by decide) rfl ?_
    refine s_aload_n hC dX5_delete_28 rfl 1 rfl ?_
    refine s_iload_n hC dX5_delete_29 rfl 2 rfl ?_
    refine s_callV_U (As := [vI r1]) (rest := []) (a := b + 0) hC hKA 1 (m_X5_dropPieces hJ hσ4 hr1) (fun _ h => h) rfl (cb_of hC 1 q_c_yX5_dropPieces q_i_X5 q_m_X5_112 rfl rfl dd_yX5_dropPieces ⟨Nat.le_of_ble_eq_true rfl, Nat.le_of_ble_eq_true rfl⟩) q_i_yX5_dropPieces q_x_yX5_dropPieces (s_recv hK (hJ.1 σ4) (by decide) o_Model rfl) rfl (Nat.le_of_ble_eq_true rfl) dX5_delete_30 ⟨Nat.zero_le _, Nat.zero_le _⟩ (fun σ5 hσ5 => ?_)
    refine s_aload_n hC dX5_delete_33 rfl 1 rfl ?_
    refine s_get (b := b) hC hK (hJ.1 σ5) (by decide) o_Model rfl q_w_X5 0 (by decide) q_f_X5_7 rfl dX5_delete_34 ?_
    refine s_sipush hC dX5_delete_37 (by decide) ?_
    refine s_aload_n hC dX5_delete_40 rfl 1 rfl ?_
    refine s_iload_n hC dX5_delete_41 rfl 2 rfl ?_
    refine s_iconst hC dX5_delete_42 ?_
    refine s_callV_P (As := [vI r1, vI 4]) (rest := [vI 363, .ref (b + 1)]) (a := b + 0) hC hKA 2 (m_X5_part (hJ.1 σ5) hσ5 hr1 (inR_c _ rfl)) rfl (cb_of hC 2 q_c_yX5_part q_i_X5 q_m_X5_61 rfl rfl dd_yX5_part ⟨Nat.le_of_ble_eq_true rfl, Nat.le_of_ble_eq_true rfl⟩) q_i_yX5_part q_x_yX5_part (s_recv hK (hJ.1 σ5) (by decide) o_Model rfl) rfl (Nat.le_of_ble_eq_true rfl) dX5_delete_43 ⟨Nat.zero_le _, Nat.zero_le _⟩ (fun r6 hr6 => ?_)
    refine s_iadd hC dX5_delete_46 ?_
    refine s_iconst hC dX5_delete_47 ?_
    refine s_iastore hC hK hJ (fun _ h => h) hσ5 (inR_c _ rfl) (by decide) a_Model_1 dX5_delete_48 (fun σ7 hσ7 => ?_)
    refine s_aload_n hC dX5_delete_49 rfl 1 rfl ?_
    refine s_get (b := b) hC hK (hJ.1 σ7) (by decide) o_Model rfl q_w_X5 0 (by decide) q_f_X5_7 rfl dX5_delete_50 ?_
    refine s_sipush hC dX5_delete_53 (by decide) ?_
    refine s_aload_n hC dX5_delete_56 rfl 1 rfl ?_
    refine s_iload_n hC dX5_delete_57 rfl 2 rfl ?_
    refine s_iconst hC dX5_delete_58 ?_
    refine s_callV_P (As := [vI r1, vI 3]) (rest := [vI 363, .ref (b + 1)]) (a := b + 0) hC hKA 2 (m_X5_part (hJ.1 σ7) hσ7 hr1 (inR_c _ rfl)) rfl (cb_of hC 2 q_c_yX5_part q_i_X5 q_m_X5_61 rfl rfl dd_yX5_part ⟨Nat.le_of_ble_eq_true rfl, Nat.le_of_ble_eq_true rfl⟩) q_i_yX5_part q_x_yX5_part (s_recv hK (hJ.1 σ7) (by decide) o_Model rfl) rfl (Nat.le_of_ble_eq_true rfl) dX5_delete_59 ⟨Nat.zero_le _, Nat.zero_le _⟩ (fun r8 hr8 => ?_)
    refine s_iadd hC dX5_delete_62 ?_
    refine s_iconst hC dX5_delete_63 ?_
    refine s_iastore hC hK hJ (fun _ h => h) hσ7 (inR_c _ rfl) (by decide) a_Model_1 dX5_delete_64 (fun σ9 hσ9 => ?_)
    refine s_iconst hC dX5_delete_65 ?_
    refine s_istore (L' := [(4, vI 0), (3, vI r3), (0, .ref (b + 0)), (2, vI r1)]) hC dX5_delete_66 (by decide) rfl ?_
    refine s_sub (L' := [(0, .ref (b + 0)), (2, vI r1), (3, vI r3), (4, vI 0)]) [2, 3, 1, 0] rfl ?_
    refine s_jp_B (J := J) 89 ([(0, .ref (b + 0)), (3, vI r3)]) ([]) (fun σ11 hσ11 => ?_) (fun j10 hj10 => ?_)
    · refine s_aload_n hC dX5_delete_89 rfl 0 rfl ?_
      refine s_get (b := b) hC hK (hJ.1 σ11) (by decide) o_Model rfl q_w_X5 0 (by decide) q_f_X5_7 rfl dX5_delete_90 ?_
      refine s_iconst hC dX5_delete_93 ?_
      refine s_dup2 hC dX5_delete_94 rfl rfl ?_
      refine s_iaload hC hK (hJ.1 σ11) hσ11 (by decide) a_Model_1 dX5_delete_95 (fun v12 hv12 => ?_)
      refine s_iconst hC dX5_delete_96 ?_
      refine s_isub hC dX5_delete_97 ?_
      refine s_ck0 (fun v13 hv13 => ?_)
      refine s_iastore hC hK hJ (fun _ h => h) hσ11 hv13 (by decide) a_Model_1 dX5_delete_98 (fun σ14 hσ14 => ?_)
      refine s_iload_n hC dX5_delete_99 rfl 1 rfl ?_
      exact s_iret hC hr dX5_delete_100 (fun H hH => ⟨rfl, hr3, hσ14, hH⟩)
    · refine s_lp_IB (J := J) (F := f_X5_delete_L68 r1 j10) 68 (fun x15 => [(0, .ref (b + 0)), (2, vI r1), (3, vI r3), (4, vI x15)]) (fun _ _ => rfl) (fun n ih68 x15 σ16 hx15 hσ16 => ?_) fu 0 σ9 (inR_c _ rfl) hσ9
      rw [f_X5_delete_L68]
      refine s_iload hC dX5_delete_68 3 rfl ?_
      refine s_bipush hC dX5_delete_70 (by decide) ?_
      refine s_icmp_ge (tgt := 89) hC dX5_delete_72 (by decide) hx15 (inR_c _ rfl) ?_ ?_
      · refine s_sub (L' := [(0, .ref (b + 0)), (3, vI r3)]) [0, 2] rfl ?_
        exact hj10 σ16 hσ16
      · refine s_aload_n hC dX5_delete_75 rfl 0 rfl ?_
        refine s_iload_n hC dX5_delete_76 rfl 1 rfl ?_
        refine s_iload hC dX5_delete_77 3 rfl ?_
        refine s_iconst hC dX5_delete_79 ?_
        refine s_callV_U (As := [vI r1, vI x15, vI 0]) (rest := []) (a := b + 0) hC hKA 3 (m_X5_setPart hJ hσ16 hr1 hx15 (inR_c _ rfl)) (fun _ h => h) rfl (cb_of hC 3 q_c_yX5_setPart q_i_X5 q_m_X5_91 rfl rfl dd_yX5_setPart ⟨Nat.le_of_ble_eq_true rfl, Nat.le_of_ble_eq_true rfl⟩) q_i_yX5_setPart q_x_yX5_setPart (s_recv hK (hJ.1 σ16) (by decide) o_Model rfl) rfl (Nat.le_of_ble_eq_true rfl) dX5_delete_80 ⟨Nat.zero_le _, Nat.zero_le _⟩ (fun σ17 hσ17 => ?_)
        refine s_iincK hC dX5_delete_83 3 rfl (by decide) (fun v18 => [(4, vI v18), (0, .ref (b + 0)), (2, vI r1), (3, vI r3)]) (fun _ => rfl) (fun v18 hv18 => ?_)
        refine s_goto (tgt := 68) hC dX5_delete_86 (by decide) ?_
        refine s_sub (L' := [(0, .ref (b + 0)), (2, vI r1), (3, vI r3), (4, vI v18)]) [1, 2, 3, 0] rfl ?_
        exact ih68 v18 σ17 hv18 hσ17
  · refine s_sub (L' := []) [] rfl ?_
    refine s_iconst hC dX5_delete_12 ?_
    exact s_iret hC hr dX5_delete_13 (fun H hH => ⟨rfl, (inR_c _ rfl), hσ, hH⟩)
set_option maxHeartbeats 4000000 in
set_option maxRecDepth 100000 in
theorem m_X5_keyAt {l : Launch} {G : Gt} {b : Nat} {σ : Blk} {I : Heap → Prop} (hI : ∀ H, I H → Bk G (layModel G b) 10 b σ H) (hσ : Rg σ) {a1 : Int} (h1 : inR a1) : MetS l yX5_keyAt cX5_keyAt 4 (some .int) { frames := 2, cells := 0, slots := 0, locals := 45 } G [.ref (b + 0), vI a1] I (poP I) (fun _ => False) 0 0 (f_X5_keyAt σ a1) := by
  refine met_of (by decide) (Nat.le_of_ble_eq_true rfl) ?_
  intro p e s m below meth c hC hKA hr _
  have hK := hKA.1
  unfold f_X5_keyAt
  refine s_sub (L' := [(0, .ref (b + 0)), (1, vI a1)]) [0, 1] rfl ?_
  refine s_iload_n hC dX5_keyAt_0 rfl 1 rfl ?_
  refine s_istore_n (L' := [(2, vI a1), (0, .ref (b + 0)), (1, vI a1)]) hC dX5_keyAt_1 rfl (by decide) rfl ?_
  refine s_iconst hC dX5_keyAt_2 ?_
  refine s_istore_n (L' := [(3, vI 0), (2, vI a1), (0, .ref (b + 0)), (1, vI a1)]) hC dX5_keyAt_3 rfl (by decide) rfl ?_
  refine s_sub (L' := [(0, .ref (b + 0)), (2, vI a1), (3, vI 0)]) [2, 1, 0] rfl ?_
  refine s_lp_II (F := f_X5_keyAt_L4 σ) 4 (fun x1 x2 => [(0, .ref (b + 0)), (2, vI x1), (3, vI x2)]) (fun _ _ => rfl) (fun n ih4 x1 x2 hx1 hx2 => ?_) fu a1 0 h1 (inR_c _ rfl)
  rw [f_X5_keyAt_L4]
  refine s_iload_n hC dX5_keyAt_4 rfl 2 rfl ?_
  refine s_bipush hC dX5_keyAt_5 (by decide) ?_
  refine s_icmp_gt (tgt := 35) hC dX5_keyAt_7 (by decide) hx2 (inR_c _ rfl) ?_ ?_
  · refine s_sub (L' := []) [] rfl ?_
    refine s_bipush hC dX5_keyAt_35 (by decide) ?_
    exact s_iret hC hr dX5_keyAt_37 (fun H hH => ⟨rfl, (inR_c _ rfl), hH⟩)
  · refine s_aload_n hC dX5_keyAt_10 rfl 0 rfl ?_
    refine s_iload_n hC dX5_keyAt_11 rfl 2 rfl ?_
    refine s_callV_P (As := [vI x2]) (rest := []) (a := b + 0) hC hKA 1 (m_X5_rowWith hI hσ hx2) rfl (cb_of hC 1 q_c_yX5_rowWith q_i_X5 q_m_X5_118 rfl rfl dd_yX5_rowWith ⟨Nat.le_of_ble_eq_true rfl, Nat.le_of_ble_eq_true rfl⟩) q_i_yX5_rowWith q_x_yX5_rowWith (s_recv hK hI (by decide) o_Model rfl) rfl (Nat.le_of_ble_eq_true rfl) dX5_keyAt_12 ⟨Nat.zero_le _, Nat.zero_le _⟩ (fun r3 hr3 => ?_)
    refine s_bipush hC dX5_keyAt_15 (by decide) ?_
    refine s_jp_I 29 (fun x5 => [(0, .ref (b + 0)), (2, vI x5), (3, vI x2)]) (fun x5 => []) (fun x5 hx5 => ?_) (fun j4 hj4 => ?_)
    · refine s_iincK hC dX5_keyAt_29 2 rfl (by decide) (fun v6 => [(3, vI v6), (0, .ref (b + 0)), (2, vI x5)]) (fun _ => rfl) (fun v6 hv6 => ?_)
      refine s_goto (tgt := 4) hC dX5_keyAt_32 (by decide) ?_
      refine s_sub (L' := [(0, .ref (b + 0)), (2, vI x5), (3, vI v6)]) [1, 2, 0] rfl ?_
      exact ih4 x5 v6 hx5 hv6
    · refine s_icmp_eq (tgt := 29) hC dX5_keyAt_17 (by decide) hr3 (inR_c _ rfl) ?_ ?_
      · exact hj4 x1 hx1
      · refine s_iload_n hC dX5_keyAt_20 rfl 1 rfl ?_
        refine s_if_ne (tgt := 26) hC dX5_keyAt_21 (by decide) hx1 ?_ ?_
        · refine s_iincK hC dX5_keyAt_26 1 rfl (by decide) (fun v7 => [(2, vI v7), (0, .ref (b + 0)), (3, vI x2)]) (fun _ => rfl) (fun v7 hv7 => ?_)
          refine s_sub (L' := [(0, .ref (b + 0)), (2, vI v7), (3, vI x2)]) [1, 0, 2] rfl ?_
          exact hj4 v7 hv7
        · refine s_sub (L' := [(3, vI x2)]) [2] rfl ?_
          refine s_iload_n hC dX5_keyAt_24 rfl 0 rfl ?_
          exact s_iret hC hr dX5_keyAt_25 (fun H hH => ⟨rfl, hx2, hH⟩)
set_option maxHeartbeats 4000000 in
set_option maxRecDepth 100000 in
theorem m_X5_packs {l : Launch} {G : Gt} {b : Nat} {σ : Blk} {J : Blk → Heap → Prop} (hJ : Wd G (layModel G b) 10 b J) (hσ : Rg σ)  : MetS l yX5_packs cX5_packs 4 (some .boolean) { frames := 6, cells := 0, slots := 0, locals := 132 } G [.ref (b + 0)] (J σ) (poW J) (Ab b 10) 0 0 (f_X5_packs σ) := by
  refine met_of (by decide) (Nat.le_of_ble_eq_true rfl) ?_
  intro p e s m below meth c hC hKA hr _
  have hK := hKA.1
  unfold f_X5_packs
  refine s_sub (L' := [(0, .ref (b + 0))]) [0] rfl ?_
  refine s_iconst hC dX5_packs_0 ?_
  refine s_istore_n (L' := [(1, vI 0), (0, .ref (b + 0))]) hC dX5_packs_1 rfl (by decide) rfl ?_
  refine s_sub (L' := [(0, .ref (b + 0)), (1, vI 0)]) [1, 0] rfl ?_
  refine s_jp_B (J := J) 26 ([(0, .ref (b + 0))]) ([]) (fun σ2 hσ2 => ?_) (fun j1 hj1 => ?_)
  · refine s_iconst hC dX5_packs_26 ?_
    refine s_istore_n (L' := [(1, vI 1), (0, .ref (b + 0))]) hC dX5_packs_27 rfl (by decide) rfl ?_
    refine s_iconst hC dX5_packs_28 ?_
    refine s_istore_n (L' := [(2, vI 0), (1, vI 1), (0, .ref (b + 0))]) hC dX5_packs_29 rfl (by decide) rfl ?_
    refine s_sub (L' := [(0, .ref (b + 0)), (1, vI 1), (2, vI 0)]) [2, 1, 0] rfl ?_
    refine s_lp_IIB (J := J) (F := f_X5_packs_L30) 30 (fun x3 x4 => [(0, .ref (b + 0)), (1, vI x3), (2, vI x4)]) (fun _ _ _ => rfl) (fun n ih30 x3 x4 σ5 hx3 hx4 hσ5 => ?_) fu 1 0 σ2 (inR_c _ rfl) (inR_c _ rfl) hσ2
    rw [f_X5_packs_L30]
    refine s_iload_n hC dX5_packs_30 rfl 2 rfl ?_
    refine s_aload_n hC dX5_packs_31 rfl 0 rfl ?_
    refine s_get (b := b) hC hK (hJ.1 σ5) (by decide) o_Model rfl q_w_X5 0 (by decide) q_f_X5_7 rfl dX5_packs_32 ?_
    refine s_iconst hC dX5_packs_35 ?_
    refine s_iaload hC hK (hJ.1 σ5) hσ5 (by decide) a_Model_1 dX5_packs_36 (fun v6 hv6 => ?_)
    refine s_icmp_ge (tgt := 71) hC dX5_packs_37 (by decide) hx4 hv6 ?_ ?_
    · refine s_sub (L' := [(1, vI x3)]) [1] rfl ?_
      refine s_iload_n hC dX5_packs_71 rfl 0 rfl ?_
      refine s_ckB (fun z7 => ?_)
      exact s_zret hC hr z7 dX5_packs_72 (fun H hH => ⟨rfl, hx3, hσ5, hH⟩)
    · refine s_iload_n hC dX5_packs_40 rfl 1 rfl ?_
      refine s_if_eq (tgt := 71) hC dX5_packs_41 (by decide) hx3 ?_ ?_
      · refine s_sub (L' := [(1, vI x3)]) [1] rfl ?_
        refine s_iload_n hC dX5_packs_71 rfl 0 rfl ?_
        refine s_ckB (fun z8 => ?_)
        exact s_zret hC hr z8 dX5_packs_72 (fun H hH => ⟨rfl, hx3, hσ5, hH⟩)
      · refine s_sub (L' := [(0, .ref (b + 0)), (2, vI x4)]) [0, 2] rfl ?_
        refine s_aload_n hC dX5_packs_44 rfl 0 rfl ?_
        refine s_aload_n hC dX5_packs_45 rfl 0 rfl ?_
        refine s_iload_n hC dX5_packs_46 rfl 1 rfl ?_
        refine s_callV_P (As := [vI x4]) (rest := [.ref (b + 0)]) (a := b + 0) hC hKA 1 (m_X5_keyAt (hJ.1 σ5) hσ5 hx4) rfl (cb_of hC 1 q_c_yX5_keyAt q_i_X5 q_m_X5_157 rfl rfl dd_yX5_keyAt ⟨Nat.le_of_ble_eq_true rfl, Nat.le_of_ble_eq_true rfl⟩) q_i_yX5_keyAt q_x_yX5_keyAt (s_recv hK (hJ.1 σ5) (by decide) o_Model rfl) rfl (Nat.le_of_ble_eq_true rfl) dX5_packs_47 ⟨Nat.zero_le _, Nat.zero_le _⟩ (fun r9 hr9 => ?_)
        refine s_callV_P (As := [vI r9]) (rest := []) (a := b + 0) hC hKA 1 (m_X5_rowWith (hJ.1 σ5) hσ5 hr9) rfl (cb_of hC 1 q_c_yX5_rowWith q_i_X5 q_m_X5_118 rfl rfl dd_yX5_rowWith ⟨Nat.le_of_ble_eq_true rfl, Nat.le_of_ble_eq_true rfl⟩) q_i_yX5_rowWith q_x_yX5_rowWith (s_recv hK (hJ.1 σ5) (by decide) o_Model rfl) rfl (Nat.le_of_ble_eq_true rfl) dX5_packs_50 ⟨Nat.zero_le _, Nat.zero_le _⟩ (fun r10 hr10 => ?_)
        refine s_istore_n (L' := [(3, vI r10), (0, .ref (b + 0)), (2, vI x4)]) hC dX5_packs_53 rfl (by decide) rfl ?_
        refine s_aload_n hC dX5_packs_54 rfl 1 rfl ?_
        refine s_iload_n hC dX5_packs_55 rfl 0 rfl ?_
        refine s_callV_U (As := [vI r10]) (rest := []) (a := b + 0) hC hKA 1 (m_X5_takeText hJ hσ5 hr10) (fun _ h => h) rfl (cb_of hC 1 q_c_yX5_takeText q_i_X5 q_m_X5_151 rfl rfl dd_yX5_takeText ⟨Nat.le_of_ble_eq_true rfl, Nat.le_of_ble_eq_true rfl⟩) q_i_yX5_takeText q_x_yX5_takeText (s_recv hK (hJ.1 σ5) (by decide) o_Model rfl) rfl (Nat.le_of_ble_eq_true rfl) dX5_packs_56 ⟨Nat.zero_le _, Nat.zero_le _⟩ (fun σ11 hσ11 => ?_)
        refine s_aload_n hC dX5_packs_59 rfl 1 rfl ?_
        refine s_iload_n hC dX5_packs_60 rfl 0 rfl ?_
        refine s_callV_W (As := [vI r10]) (rest := []) (a := b + 0) hC hKA 1 (m_X5_writeNew hJ hσ11 hr10) (fun _ h => h) rfl (cb_of hC 1 q_c_yX5_writeNew q_i_X5 q_m_X5_124 rfl rfl dd_yX5_writeNew ⟨Nat.le_of_ble_eq_true rfl, Nat.le_of_ble_eq_true rfl⟩) q_i_yX5_writeNew q_x_yX5_writeNew (s_recv hK (hJ.1 σ11) (by decide) o_Model rfl) rfl (Nat.le_of_ble_eq_true rfl) dX5_packs_61 ⟨Nat.zero_le _, Nat.zero_le _⟩ (fun r12 σ13 hr12 hσ13 => ?_)
        refine s_istore_n (L' := [(1, vI r12), (3, vI r10), (0, .ref (b + 0)), (2, vI x4)]) hC dX5_packs_64 rfl (by decide) rfl ?_
        refine s_iincK hC dX5_packs_65 3 rfl (by decide) (fun v14 => [(2, vI v14), (1, vI r12), (3, vI r10), (0, .ref (b + 0))]) (fun _ => rfl) (fun v14 hv14 => ?_)
        refine s_goto (tgt := 30) hC dX5_packs_68 (by decide) ?_
        refine s_sub (L' := [(0, .ref (b + 0)), (1, vI r12), (2, vI v14)]) [3, 1, 0] rfl ?_
        exact ih30 r12 v14 σ13 hr12 hv14 hσ13
  · refine s_lp_IB (J := J) (F := f_X5_packs_L2 j1) 2 (fun x15 => [(0, .ref (b + 0)), (1, vI x15)]) (fun _ _ => rfl) (fun n ih2 x15 σ16 hx15 hσ16 => ?_) fu 0 σ (inR_c _ rfl) hσ
    rw [f_X5_packs_L2]
    refine s_iload_n hC dX5_packs_2 rfl 1 rfl ?_
    refine s_sipush hC dX5_packs_3 (by decide) ?_
    refine s_icmp_ge (tgt := 26) hC dX5_packs_6 (by decide) hx15 (inR_c _ rfl) ?_ ?_
    · refine s_sub (L' := [(0, .ref (b + 0))]) [0] rfl ?_
      exact hj1 σ16 hσ16
    · refine s_aload_n hC dX5_packs_9 rfl 0 rfl ?_
      refine s_get (b := b) hC hK (hJ.1 σ16) (by decide) o_Model rfl q_w_X5 0 (by decide) q_f_X5_7 rfl dX5_packs_10 ?_
      refine s_sipush hC dX5_packs_13 (by decide) ?_
      refine s_iload_n hC dX5_packs_16 rfl 1 rfl ?_
      refine s_iadd hC dX5_packs_17 ?_
      refine s_iconst hC dX5_packs_18 ?_
      refine s_iastore hC hK hJ (fun _ h => h) hσ16 (inR_c _ rfl) (by decide) a_Model_1 dX5_packs_19 (fun σ17 hσ17 => ?_)
      refine s_iincK hC dX5_packs_20 1 rfl (by decide) (fun v18 => [(1, vI v18), (0, .ref (b + 0))]) (fun _ => rfl) (fun v18 hv18 => ?_)
      refine s_goto (tgt := 2) hC dX5_packs_23 (by decide) ?_
      refine s_sub (L' := [(0, .ref (b + 0)), (1, vI v18)]) [1, 0] rfl ?_
      exact ih2 v18 σ17 hv18 hσ17
set_option maxHeartbeats 4000000 in
set_option maxRecDepth 100000 in
theorem m_X5_pagesWith {l : Launch} {G : Gt} {b : Nat} {σ : Blk} {I : Heap → Prop} (hI : ∀ H, I H → Bk G (layModel G b) 10 b σ H) (hσ : Rg σ)  : MetS l yX5_pagesWith cX5_pagesWith 3 (some .int) { frames := 1, cells := 0, slots := 0, locals := 23 } G [.ref (b + 0)] I (poP I) (fun _ => False) 0 0 (f_X5_pagesWith σ) := by
  refine met_of (by decide) (Nat.le_of_ble_eq_true rfl) ?_
  intro p e s m below meth c hC hKA hr _
  have hK := hKA.1
  unfold f_X5_pagesWith
  refine s_sub (L' := [(0, .ref (b + 0))]) [0] rfl ?_
  refine s_iconst hC dX5_pagesWith_0 ?_
  refine s_istore_n (L' := [(1, vI 0), (0, .ref (b + 0))]) hC dX5_pagesWith_1 rfl (by decide) rfl ?_
  refine s_iconst hC dX5_pagesWith_2 ?_
  refine s_istore_n (L' := [(2, vI 0), (1, vI 0), (0, .ref (b + 0))]) hC dX5_pagesWith_3 rfl (by decide) rfl ?_
  refine s_sub (L' := [(0, .ref (b + 0)), (1, vI 0), (2, vI 0)]) [2, 1, 0] rfl ?_
  refine s_lp_II (F := f_X5_pagesWith_L4 σ) 4 (fun x1 x2 => [(0, .ref (b + 0)), (1, vI x1), (2, vI x2)]) (fun _ _ => rfl) (fun n ih4 x1 x2 hx1 hx2 => ?_) fu 0 0 (inR_c _ rfl) (inR_c _ rfl)
  rw [f_X5_pagesWith_L4]
  refine s_iload_n hC dX5_pagesWith_4 rfl 2 rfl ?_
  refine s_bipush hC dX5_pagesWith_5 (by decide) ?_
  refine s_icmp_ge (tgt := 32) hC dX5_pagesWith_7 (by decide) hx2 (inR_c _ rfl) ?_ ?_
  · refine s_sub (L' := [(1, vI x1)]) [1] rfl ?_
    refine s_iload_n hC dX5_pagesWith_32 rfl 0 rfl ?_
    exact s_iret hC hr dX5_pagesWith_33 (fun H hH => ⟨rfl, hx1, hH⟩)
  · refine s_iload_n hC dX5_pagesWith_10 rfl 1 rfl ?_
    refine s_aload_n hC dX5_pagesWith_11 rfl 0 rfl ?_
    refine s_iload_n hC dX5_pagesWith_12 rfl 2 rfl ?_
    refine s_callV_P (As := [vI x2]) (rest := [vI x1]) (a := b + 0) hC hKA 1 (m_X5_slotsOf hI hσ hx2) rfl (cb_of hC 1 q_c_yX5_slotsOf q_i_X5 q_m_X5_160 rfl rfl dd_yX5_slotsOf ⟨Nat.le_of_ble_eq_true rfl, Nat.le_of_ble_eq_true rfl⟩) q_i_yX5_slotsOf q_x_yX5_slotsOf (s_recv hK hI (by decide) o_Model rfl) rfl (Nat.le_of_ble_eq_true rfl) dX5_pagesWith_13 ⟨Nat.zero_le _, Nat.zero_le _⟩ (fun r3 hr3 => ?_)
    refine s_jp_I 24 (fun x5 => [(0, .ref (b + 0)), (2, vI x2)]) (fun x5 => [vI x5, vI x1]) (fun x5 hx5 => ?_) (fun j4 hj4 => ?_)
    · refine s_iadd hC dX5_pagesWith_24 ?_
      refine s_ck0 (fun v6 hv6 => ?_)
      refine s_istore_n (L' := [(1, vI v6), (0, .ref (b + 0)), (2, vI x2)]) hC dX5_pagesWith_25 rfl (by decide) rfl ?_
      refine s_iincK hC dX5_pagesWith_26 2 rfl (by decide) (fun v7 => [(2, vI v7), (1, vI v6), (0, .ref (b + 0))]) (fun _ => rfl) (fun v7 hv7 => ?_)
      refine s_goto (tgt := 4) hC dX5_pagesWith_29 (by decide) ?_
      refine s_sub (L' := [(0, .ref (b + 0)), (1, vI v6), (2, vI v7)]) [2, 1, 0] rfl ?_
      exact ih4 v6 v7 hv6 hv7
    · refine s_if_le (tgt := 23) hC dX5_pagesWith_16 (by decide) hr3 ?_ ?_
      · refine s_sub (L' := [(0, .ref (b + 0)), (2, vI x2)]) [0, 2] rfl ?_
        refine s_iconst hC dX5_pagesWith_23 ?_
        exact hj4 0 (inR_c _ rfl)
      · refine s_sub (L' := [(0, .ref (b + 0)), (2, vI x2)]) [0, 2] rfl ?_
        refine s_iconst hC dX5_pagesWith_19 ?_
        refine s_goto (tgt := 24) hC dX5_pagesWith_20 (by decide) ?_
        exact hj4 1 (inR_c _ rfl)
set_option maxHeartbeats 4000000 in
set_option maxRecDepth 100000 in
theorem m_X5_pack {l : Launch} {G : Gt} {b : Nat} {σ : Blk} {J : Blk → Heap → Prop} (hJ : Wd G (layModel G b) 10 b J) (hσ : Rg σ)  : MetS l yX5_pack cX5_pack 1 (some .int) { frames := 7, cells := 0, slots := 0, locals := 155 } G [.ref (b + 0)] (J σ) (poW J) (Ab b 10) 0 0 (f_X5_pack σ) := by
  refine met_of (by decide) (Nat.le_of_ble_eq_true rfl) ?_
  intro p e s m below meth c hC hKA hr _
  have hK := hKA.1
  unfold f_X5_pack
  refine s_sub (L' := [(0, .ref (b + 0))]) [0] rfl ?_
  refine s_aload_n hC dX5_pack_0 rfl 0 rfl ?_
  refine s_get (b := b) hC hK (hJ.1 σ) (by decide) o_Model rfl q_w_X5 0 (by decide) q_f_X5_7 rfl dX5_pack_1 ?_
  refine s_iconst hC dX5_pack_4 ?_
  refine s_aload_n hC dX5_pack_5 rfl 0 rfl ?_
  refine s_get (b := b) hC hK (hJ.1 σ) (by decide) o_Model rfl q_w_X5 1 (by decide) q_f_X5_13 rfl dX5_pack_6 ?_
  refine s_iconst hC dX5_pack_9 ?_
  refine s_callS_U (As := [.ref (b + 1), vI 0, .ref (b + 2), vI 0]) (rest := []) hC hKA 4 (m_X5_moves hJ hσ (by decide) a_Model_1 (inR_c _ rfl) (by decide) a_Model_2 (inR_c _ rfl)) (fun _ h => h) rfl (cb_of hC 4 q_c_yX5_moves q_i_X5 q_m_X5_41 rfl rfl dd_yX5_moves ⟨Nat.le_of_ble_eq_true rfl, Nat.le_of_ble_eq_true rfl⟩) q_s_yX5_moves rfl (Nat.le_of_ble_eq_true rfl) dX5_pack_10 ⟨Nat.zero_le _, Nat.zero_le _⟩ (fun σ1 hσ1 => ?_)
  refine s_aload_n hC dX5_pack_13 rfl 0 rfl ?_
  refine s_callV_W (As := []) (rest := []) (a := b + 0) hC hKA 0 (m_X5_packs hJ hσ1) (fun _ h => h) rfl (cb_of hC 0 q_c_yX5_packs q_i_X5 q_m_X5_163 rfl rfl dd_yX5_packs ⟨Nat.le_of_ble_eq_true rfl, Nat.le_of_ble_eq_true rfl⟩) q_i_yX5_packs q_x_yX5_packs (s_recv hK (hJ.1 σ1) (by decide) o_Model rfl) rfl (Nat.le_of_ble_eq_true rfl) dX5_pack_14 ⟨Nat.zero_le _, Nat.zero_le _⟩ (fun r2 σ3 hr2 hσ3 => ?_)
  refine s_if_ne (tgt := 36) hC dX5_pack_17 (by decide) hr2 ?_ ?_
  · refine s_aload_n hC dX5_pack_36 rfl 0 rfl ?_
    refine s_aload_n hC dX5_pack_37 rfl 0 rfl ?_
    refine s_get (b := b) hC hK (hJ.1 σ3) (by decide) o_Model rfl q_w_X5 1 (by decide) q_f_X5_13 rfl dX5_pack_38 ?_
    refine s_callV_U (As := [.ref (b + 2)]) (rest := []) (a := b + 0) hC hKA 1 (m_X5_record hJ hσ3 (by decide) a_Model_2) (fun _ h => h) rfl (cb_of hC 1 q_c_yX5_record q_i_X5 q_m_X5_138 rfl rfl dd_yX5_record ⟨Nat.le_of_ble_eq_true rfl, Nat.le_of_ble_eq_true rfl⟩) q_i_yX5_record q_x_yX5_record (s_recv hK (hJ.1 σ3) (by decide) o_Model rfl) rfl (Nat.le_of_ble_eq_true rfl) dX5_pack_41 ⟨Nat.zero_le _, Nat.zero_le _⟩ (fun σ4 hσ4 => ?_)
    refine s_aload_n hC dX5_pack_44 rfl 0 rfl ?_
    refine s_callV_P (As := []) (rest := []) (a := b + 0) hC hKA 0 (m_X5_pagesWith (hJ.1 σ4) hσ4) rfl (cb_of hC 0 q_c_yX5_pagesWith q_i_X5 q_m_X5_167 rfl rfl dd_yX5_pagesWith ⟨Nat.le_of_ble_eq_true rfl, Nat.le_of_ble_eq_true rfl⟩) q_i_yX5_pagesWith q_x_yX5_pagesWith (s_recv hK (hJ.1 σ4) (by decide) o_Model rfl) rfl (Nat.le_of_ble_eq_true rfl) dX5_pack_45 ⟨Nat.zero_le _, Nat.zero_le _⟩ (fun r5 hr5 => ?_)
    exact s_iret hC hr dX5_pack_48 (fun H hH => ⟨rfl, hr5, hσ4, hH⟩)
  · refine s_aload_n hC dX5_pack_20 rfl 0 rfl ?_
    refine s_get (b := b) hC hK (hJ.1 σ3) (by decide) o_Model rfl q_w_X5 1 (by decide) q_f_X5_13 rfl dX5_pack_21 ?_
    refine s_iconst hC dX5_pack_24 ?_
    refine s_aload_n hC dX5_pack_25 rfl 0 rfl ?_
    refine s_get (b := b) hC hK (hJ.1 σ3) (by decide) o_Model rfl q_w_X5 0 (by decide) q_f_X5_7 rfl dX5_pack_26 ?_
    refine s_iconst hC dX5_pack_29 ?_
    refine s_callS_U (As := [.ref (b + 2), vI 0, .ref (b + 1), vI 0]) (rest := []) hC hKA 4 (m_X5_moves hJ hσ3 (by decide) a_Model_2 (inR_c _ rfl) (by decide) a_Model_1 (inR_c _ rfl)) (fun _ h => h) rfl (cb_of hC 4 q_c_yX5_moves q_i_X5 q_m_X5_41 rfl rfl dd_yX5_moves ⟨Nat.le_of_ble_eq_true rfl, Nat.le_of_ble_eq_true rfl⟩) q_s_yX5_moves rfl (Nat.le_of_ble_eq_true rfl) dX5_pack_30 ⟨Nat.zero_le _, Nat.zero_le _⟩ (fun σ6 hσ6 => ?_)
    refine s_bipush hC dX5_pack_33 (by decide) ?_
    exact s_iret hC hr dX5_pack_35 (fun H hH => ⟨rfl, (inR_c _ rfl), hσ6, hH⟩)
set_option maxHeartbeats 4000000 in
set_option maxRecDepth 100000 in
theorem m_X5_row {l : Launch} {G : Gt} {b : Nat} {σ : Blk} {J : Blk → Heap → Prop} (hJ : Wd G (layModel G b) 10 b J) (hσ : Rg σ) {a1 : Int} (h1 : inR a1) {a2 : Int} (h2 : inR a2) : MetS l yX5_row cX5_row 4 (some .int) { frames := 3, cells := 0, slots := 0, locals := 68 } G [.ref (b + 0), vI a1, vI a2] (J σ) (poW J) (Ab b 10) 0 0 (f_X5_row σ a1 a2) := by
  refine met_of (by decide) (Nat.le_of_ble_eq_true rfl) ?_
  intro p e s m below meth c hC hKA hr _
  have hK := hKA.1
  unfold f_X5_row
  refine s_sub (L' := [(0, .ref (b + 0)), (1, vI a1), (2, vI a2)]) [0, 1, 2] rfl ?_
  refine s_aload_n hC dX5_row_0 rfl 0 rfl ?_
  refine s_iload_n hC dX5_row_1 rfl 1 rfl ?_
  refine s_callV_P (As := [vI a1]) (rest := []) (a := b + 0) hC hKA 1 (m_X5_rowWith (hJ.1 σ) hσ h1) rfl (cb_of hC 1 q_c_yX5_rowWith q_i_X5 q_m_X5_118 rfl rfl dd_yX5_rowWith ⟨Nat.le_of_ble_eq_true rfl, Nat.le_of_ble_eq_true rfl⟩) q_i_yX5_rowWith q_x_yX5_rowWith (s_recv hK (hJ.1 σ) (by decide) o_Model rfl) rfl (Nat.le_of_ble_eq_true rfl) dX5_row_2 ⟨Nat.zero_le _, Nat.zero_le _⟩ (fun r1 hr1 => ?_)
  refine s_istore_n (L' := [(3, vI r1), (0, .ref (b + 0)), (1, vI a1), (2, vI a2)]) hC dX5_row_5 rfl (by decide) rfl ?_
  refine s_iload_n hC dX5_row_6 rfl 0 rfl ?_
  refine s_bipush hC dX5_row_7 (by decide) ?_
  refine s_icmp_ne (tgt := 14) hC dX5_row_9 (by decide) hr1 (inR_c _ rfl) ?_ ?_
  · refine s_sub (L' := [(0, .ref (b + 0)), (2, vI a2), (3, vI r1)]) [1, 3, 0] rfl ?_
    refine s_iload_n hC dX5_row_14 rfl 1 rfl ?_
    refine s_ite (fun hz => ?_) (fun hz0 => ?_)
    · refine s_tabIn (tgt := 68) hC 0 dX5_row_15 h2 hz (by decide) (by decide) rfl (by decide) ?_
      refine s_sub (L' := [(0, .ref (b + 0)), (3, vI r1)]) [0, 2] rfl ?_
      refine s_aload_n hC dX5_row_68 rfl 0 rfl ?_
      refine s_iload_n hC dX5_row_69 rfl 1 rfl ?_
      refine s_iconst hC dX5_row_70 ?_
      refine s_callV_P (As := [vI r1, vI 2]) (rest := []) (a := b + 0) hC hKA 2 (m_X5_part (hJ.1 σ) hσ hr1 (inR_c _ rfl)) rfl (cb_of hC 2 q_c_yX5_part q_i_X5 q_m_X5_61 rfl rfl dd_yX5_part ⟨Nat.le_of_ble_eq_true rfl, Nat.le_of_ble_eq_true rfl⟩) q_i_yX5_part q_x_yX5_part (s_recv hK (hJ.1 σ) (by decide) o_Model rfl) rfl (Nat.le_of_ble_eq_true rfl) dX5_row_71 ⟨Nat.zero_le _, Nat.zero_le _⟩ (fun r2 hr2 => ?_)
      exact s_iret hC hr dX5_row_74 (fun H hH => ⟨rfl, hr2, hσ, hH⟩)
    · refine s_ite (fun hz => ?_) (fun hz1 => ?_)
      · refine s_tabIn (tgt := 75) hC 1 dX5_row_15 h2 hz (by decide) (by decide) rfl (by decide) ?_
        refine s_sub (L' := [(0, .ref (b + 0)), (3, vI r1)]) [0, 2] rfl ?_
        refine s_aload_n hC dX5_row_75 rfl 0 rfl ?_
        refine s_iload_n hC dX5_row_76 rfl 1 rfl ?_
        refine s_iconst hC dX5_row_77 ?_
        refine s_callV_P (As := [vI r1, vI 3]) (rest := []) (a := b + 0) hC hKA 2 (m_X5_part (hJ.1 σ) hσ hr1 (inR_c _ rfl)) rfl (cb_of hC 2 q_c_yX5_part q_i_X5 q_m_X5_61 rfl rfl dd_yX5_part ⟨Nat.le_of_ble_eq_true rfl, Nat.le_of_ble_eq_true rfl⟩) q_i_yX5_part q_x_yX5_part (s_recv hK (hJ.1 σ) (by decide) o_Model rfl) rfl (Nat.le_of_ble_eq_true rfl) dX5_row_78 ⟨Nat.zero_le _, Nat.zero_le _⟩ (fun r3 hr3 => ?_)
        refine s_bipush hC dX5_row_81 (by decide) ?_
        refine s_idiv hC dX5_row_83 hr3 (inR_c _ rfl) (by decide) (fun v4 hv4 => ?_)
        exact s_iret hC hr dX5_row_84 (fun H hH => ⟨rfl, hv4, hσ, hH⟩)
      · refine s_ite (fun hz => ?_) (fun hz2 => ?_)
        · refine s_tabIn (tgt := 85) hC 2 dX5_row_15 h2 hz (by decide) (by decide) rfl (by decide) ?_
          refine s_sub (L' := [(0, .ref (b + 0)), (3, vI r1)]) [0, 2] rfl ?_
          refine s_aload_n hC dX5_row_85 rfl 0 rfl ?_
          refine s_iload_n hC dX5_row_86 rfl 1 rfl ?_
          refine s_iconst hC dX5_row_87 ?_
          refine s_callV_P (As := [vI r1, vI 3]) (rest := []) (a := b + 0) hC hKA 2 (m_X5_part (hJ.1 σ) hσ hr1 (inR_c _ rfl)) rfl (cb_of hC 2 q_c_yX5_part q_i_X5 q_m_X5_61 rfl rfl dd_yX5_part ⟨Nat.le_of_ble_eq_true rfl, Nat.le_of_ble_eq_true rfl⟩) q_i_yX5_part q_x_yX5_part (s_recv hK (hJ.1 σ) (by decide) o_Model rfl) rfl (Nat.le_of_ble_eq_true rfl) dX5_row_88 ⟨Nat.zero_le _, Nat.zero_le _⟩ (fun r5 hr5 => ?_)
          refine s_bipush hC dX5_row_91 (by decide) ?_
          refine s_irem hC dX5_row_93 hr5 (inR_c _ rfl) (by decide) (fun v6 hv6 => ?_)
          exact s_iret hC hr dX5_row_94 (fun H hH => ⟨rfl, hv6, hσ, hH⟩)
        · refine s_ite (fun hz => ?_) (fun hz3 => ?_)
          · refine s_tabIn (tgt := 95) hC 3 dX5_row_15 h2 hz (by decide) (by decide) rfl (by decide) ?_
            refine s_sub (L' := [(0, .ref (b + 0)), (3, vI r1)]) [0, 2] rfl ?_
            refine s_aload_n hC dX5_row_95 rfl 0 rfl ?_
            refine s_iload_n hC dX5_row_96 rfl 1 rfl ?_
            refine s_iconst hC dX5_row_97 ?_
            refine s_callV_P (As := [vI r1, vI 4]) (rest := []) (a := b + 0) hC hKA 2 (m_X5_part (hJ.1 σ) hσ hr1 (inR_c _ rfl)) rfl (cb_of hC 2 q_c_yX5_part q_i_X5 q_m_X5_61 rfl rfl dd_yX5_part ⟨Nat.le_of_ble_eq_true rfl, Nat.le_of_ble_eq_true rfl⟩) q_i_yX5_part q_x_yX5_part (s_recv hK (hJ.1 σ) (by decide) o_Model rfl) rfl (Nat.le_of_ble_eq_true rfl) dX5_row_98 ⟨Nat.zero_le _, Nat.zero_le _⟩ (fun r7 hr7 => ?_)
            refine s_bipush hC dX5_row_101 (by decide) ?_
            refine s_idiv hC dX5_row_103 hr7 (inR_c _ rfl) (by decide) (fun v8 hv8 => ?_)
            exact s_iret hC hr dX5_row_104 (fun H hH => ⟨rfl, hv8, hσ, hH⟩)
          · refine s_ite (fun hz => ?_) (fun hz4 => ?_)
            · refine s_tabIn (tgt := 105) hC 4 dX5_row_15 h2 hz (by decide) (by decide) rfl (by decide) ?_
              refine s_sub (L' := [(0, .ref (b + 0)), (3, vI r1)]) [0, 2] rfl ?_
              refine s_aload_n hC dX5_row_105 rfl 0 rfl ?_
              refine s_iload_n hC dX5_row_106 rfl 1 rfl ?_
              refine s_iconst hC dX5_row_107 ?_
              refine s_callV_P (As := [vI r1, vI 4]) (rest := []) (a := b + 0) hC hKA 2 (m_X5_part (hJ.1 σ) hσ hr1 (inR_c _ rfl)) rfl (cb_of hC 2 q_c_yX5_part q_i_X5 q_m_X5_61 rfl rfl dd_yX5_part ⟨Nat.le_of_ble_eq_true rfl, Nat.le_of_ble_eq_true rfl⟩) q_i_yX5_part q_x_yX5_part (s_recv hK (hJ.1 σ) (by decide) o_Model rfl) rfl (Nat.le_of_ble_eq_true rfl) dX5_row_108 ⟨Nat.zero_le _, Nat.zero_le _⟩ (fun r9 hr9 => ?_)
              refine s_bipush hC dX5_row_111 (by decide) ?_
              refine s_irem hC dX5_row_113 hr9 (inR_c _ rfl) (by decide) (fun v10 hv10 => ?_)
              exact s_iret hC hr dX5_row_114 (fun H hH => ⟨rfl, hv10, hσ, hH⟩)
            · refine s_ite (fun hz => ?_) (fun hz5 => ?_)
              · refine s_tabIn (tgt := 115) hC 5 dX5_row_15 h2 hz (by decide) (by decide) rfl (by decide) ?_
                refine s_sub (L' := [(0, .ref (b + 0)), (3, vI r1)]) [0, 2] rfl ?_
                refine s_aload_n hC dX5_row_115 rfl 0 rfl ?_
                refine s_iload_n hC dX5_row_116 rfl 1 rfl ?_
                refine s_callV_P (As := [vI r1]) (rest := []) (a := b + 0) hC hKA 1 (m_X5_hasMoved (hJ.1 σ) hσ hr1) rfl (cb_of hC 1 q_c_yX5_hasMoved q_i_X5 q_m_X5_81 rfl rfl dd_yX5_hasMoved ⟨Nat.le_of_ble_eq_true rfl, Nat.le_of_ble_eq_true rfl⟩) q_i_yX5_hasMoved q_x_yX5_hasMoved (s_recv hK (hJ.1 σ) (by decide) o_Model rfl) rfl (Nat.le_of_ble_eq_true rfl) dX5_row_117 ⟨Nat.zero_le _, Nat.zero_le _⟩ (fun r11 hr11 => ?_)
                refine s_if_eq (tgt := 127) hC dX5_row_120 (by decide) hr11 ?_ ?_
                · refine s_sub (L' := []) [] rfl ?_
                  refine s_iconst hC dX5_row_127 ?_
                  exact s_iret hC hr dX5_row_128 (fun H hH => ⟨rfl, (inR_c _ rfl), hσ, hH⟩)
                · refine s_sub (L' := []) [] rfl ?_
                  refine s_iconst hC dX5_row_123 ?_
                  refine s_goto (tgt := 128) hC dX5_row_124 (by decide) ?_
                  exact s_iret hC hr dX5_row_128 (fun H hH => ⟨rfl, (inR_c _ rfl), hσ, hH⟩)
              · refine s_ite (fun hz => ?_) (fun hz6 => ?_)
                · refine s_tabIn (tgt := 129) hC 6 dX5_row_15 h2 hz (by decide) (by decide) rfl (by decide) ?_
                  refine s_sub (L' := [(0, .ref (b + 0)), (3, vI r1)]) [0, 2] rfl ?_
                  refine s_aload_n hC dX5_row_129 rfl 0 rfl ?_
                  refine s_iload_n hC dX5_row_130 rfl 1 rfl ?_
                  refine s_callV_P (As := [vI r1]) (rest := []) (a := b + 0) hC hKA 1 (m_X5_headOf (hJ.1 σ) hσ hr1) rfl (cb_of hC 1 q_c_yX5_headOf q_i_X5 q_m_X5_78 rfl rfl dd_yX5_headOf ⟨Nat.le_of_ble_eq_true rfl, Nat.le_of_ble_eq_true rfl⟩) q_i_yX5_headOf q_x_yX5_headOf (s_recv hK (hJ.1 σ) (by decide) o_Model rfl) rfl (Nat.le_of_ble_eq_true rfl) dX5_row_131 ⟨Nat.zero_le _, Nat.zero_le _⟩ (fun r12 hr12 => ?_)
                  refine s_callS_P (As := [vI r12]) (rest := []) hC hKA 1 (m_X5_lettersOf (I := J σ) hr12) rfl (cb_of hC 1 q_c_yX5_lettersOf q_i_X5 q_m_X5_49 rfl rfl dd_yX5_lettersOf ⟨Nat.le_of_ble_eq_true rfl, Nat.le_of_ble_eq_true rfl⟩) q_s_yX5_lettersOf rfl (Nat.le_of_ble_eq_true rfl) dX5_row_134 ⟨Nat.zero_le _, Nat.zero_le _⟩ (fun r13 hr13 => ?_)
                  exact s_iret hC hr dX5_row_137 (fun H hH => ⟨rfl, hr13, hσ, hH⟩)
                · refine s_ite (fun hz => ?_) (fun hz7 => ?_)
                  · refine s_tabIn (tgt := 138) hC 7 dX5_row_15 h2 hz (by decide) (by decide) rfl (by decide) ?_
                    refine s_sub (L' := [(0, .ref (b + 0)), (3, vI r1)]) [0, 2] rfl ?_
                    refine s_aload_n hC dX5_row_138 rfl 0 rfl ?_
                    refine s_iload_n hC dX5_row_139 rfl 1 rfl ?_
                    refine s_callV_U (As := [vI r1]) (rest := []) (a := b + 0) hC hKA 1 (m_X5_findPieces hJ hσ hr1) (fun _ h => h) rfl (cb_of hC 1 q_c_yX5_findPieces q_i_X5 q_m_X5_74 rfl rfl dd_yX5_findPieces ⟨Nat.le_of_ble_eq_true rfl, Nat.le_of_ble_eq_true rfl⟩) q_i_yX5_findPieces q_x_yX5_findPieces (s_recv hK (hJ.1 σ) (by decide) o_Model rfl) rfl (Nat.le_of_ble_eq_true rfl) dX5_row_140 ⟨Nat.zero_le _, Nat.zero_le _⟩ (fun σ14 hσ14 => ?_)
                    refine s_aload_n hC dX5_row_143 rfl 0 rfl ?_
                    refine s_get (b := b) hC hK (hJ.1 σ14) (by decide) o_Model rfl q_w_X5 12 (by decide) q_f_X5_65 rfl dX5_row_144 ?_
                    exact s_iret hC hr dX5_row_147 (fun H hH => ⟨rfl, (hσ14 0 12), hσ14, hH⟩)
                  · refine s_ite (fun hz => ?_) (fun hz8 => ?_)
                    · refine s_tabIn (tgt := 148) hC 8 dX5_row_15 h2 hz (by decide) (by decide) rfl (by decide) ?_
                      refine s_sub (L' := [(0, .ref (b + 0)), (3, vI r1)]) [0, 2] rfl ?_
                      refine s_aload_n hC dX5_row_148 rfl 0 rfl ?_
                      refine s_iload_n hC dX5_row_149 rfl 1 rfl ?_
                      refine s_callV_W (As := [vI r1]) (rest := []) (a := b + 0) hC hKA 1 (m_X5_costOf hJ hσ hr1) (fun _ h => h) rfl (cb_of hC 1 q_c_yX5_costOf q_i_X5 q_m_X5_170 rfl rfl dd_yX5_costOf ⟨Nat.le_of_ble_eq_true rfl, Nat.le_of_ble_eq_true rfl⟩) q_i_yX5_costOf q_x_yX5_costOf (s_recv hK (hJ.1 σ) (by decide) o_Model rfl) rfl (Nat.le_of_ble_eq_true rfl) dX5_row_150 ⟨Nat.zero_le _, Nat.zero_le _⟩ (fun r15 σ16 hr15 hσ16 => ?_)
                      exact s_iret hC hr dX5_row_153 (fun H hH => ⟨rfl, hr15, hσ16, hH⟩)
                    · refine s_ite (fun hz => ?_) (fun hz9 => ?_)
                      · refine s_tabIn (tgt := 154) hC 9 dX5_row_15 h2 hz (by decide) (by decide) rfl (by decide) ?_
                        refine s_sub (L' := [(0, .ref (b + 0)), (3, vI r1)]) [0, 2] rfl ?_
                        refine s_aload_n hC dX5_row_154 rfl 0 rfl ?_
                        refine s_iload_n hC dX5_row_155 rfl 1 rfl ?_
                        refine s_callV_W (As := [vI r1]) (rest := []) (a := b + 0) hC hKA 1 (m_X5_cellsOfRow hJ hσ hr1) (fun _ h => h) rfl (cb_of hC 1 q_c_yX5_cellsOfRow q_i_X5 q_m_X5_154 rfl rfl dd_yX5_cellsOfRow ⟨Nat.le_of_ble_eq_true rfl, Nat.le_of_ble_eq_true rfl⟩) q_i_yX5_cellsOfRow q_x_yX5_cellsOfRow (s_recv hK (hJ.1 σ) (by decide) o_Model rfl) rfl (Nat.le_of_ble_eq_true rfl) dX5_row_156 ⟨Nat.zero_le _, Nat.zero_le _⟩ (fun r17 σ18 hr17 hσ18 => ?_)
                        exact s_iret hC hr dX5_row_159 (fun H hH => ⟨rfl, hr17, hσ18, hH⟩)
                      · refine s_tabOut (tgt := 160) hC dX5_row_15 h2 (by omega) (by decide) ?_
                        refine s_sub (L' := []) [] rfl ?_
                        refine s_bipush hC dX5_row_160 (by decide) ?_
                        exact s_iret hC hr dX5_row_162 (fun H hH => ⟨rfl, (inR_c _ rfl), hσ, hH⟩)
  · refine s_sub (L' := []) [] rfl ?_
    refine s_iconst hC dX5_row_12 ?_
    exact s_iret hC hr dX5_row_13 (fun H hH => ⟨rfl, (inR_c _ rfl), hσ, hH⟩)
set_option maxHeartbeats 4000000 in
set_option maxRecDepth 100000 in
theorem m_X5_letter {l : Launch} {G : Gt} {b : Nat} {σ : Blk} {I : Heap → Prop} (hI : ∀ H, I H → Bk G (layModel G b) 10 b σ H) (hσ : Rg σ) {a1 : Int} (h1 : inR a1) {a2 : Int} (h2 : inR a2) : MetS l yX5_letter cX5_letter 4 (some .int) { frames := 2, cells := 0, slots := 0, locals := 45 } G [.ref (b + 0), vI a1, vI a2] I (poP I) (fun _ => False) 0 0 (f_X5_letter σ a1 a2) := by
  refine met_of (by decide) (Nat.le_of_ble_eq_true rfl) ?_
  intro p e s m below meth c hC hKA hr _
  have hK := hKA.1
  unfold f_X5_letter
  refine s_sub (L' := [(0, .ref (b + 0)), (1, vI a1), (2, vI a2)]) [0, 1, 2] rfl ?_
  refine s_aload_n hC dX5_letter_0 rfl 0 rfl ?_
  refine s_iload_n hC dX5_letter_1 rfl 1 rfl ?_
  refine s_callV_P (As := [vI a1]) (rest := []) (a := b + 0) hC hKA 1 (m_X5_rowWith hI hσ h1) rfl (cb_of hC 1 q_c_yX5_rowWith q_i_X5 q_m_X5_118 rfl rfl dd_yX5_rowWith ⟨Nat.le_of_ble_eq_true rfl, Nat.le_of_ble_eq_true rfl⟩) q_i_yX5_rowWith q_x_yX5_rowWith (s_recv hK hI (by decide) o_Model rfl) rfl (Nat.le_of_ble_eq_true rfl) dX5_letter_2 ⟨Nat.zero_le _, Nat.zero_le _⟩ (fun r1 hr1 => ?_)
  refine s_istore_n (L' := [(3, vI r1), (0, .ref (b + 0)), (1, vI a1), (2, vI a2)]) hC dX5_letter_5 rfl (by decide) rfl ?_
  refine s_iload_n hC dX5_letter_6 rfl 0 rfl ?_
  refine s_bipush hC dX5_letter_7 (by decide) ?_
  refine s_icmp_eq (tgt := 37) hC dX5_letter_9 (by decide) hr1 (inR_c _ rfl) ?_ ?_
  · refine s_sub (L' := []) [] rfl ?_
    refine s_iconst hC dX5_letter_37 ?_
    exact s_iret hC hr dX5_letter_38 (fun H hH => ⟨rfl, (inR_c _ rfl), hH⟩)
  · refine s_sub (L' := [(0, .ref (b + 0)), (2, vI a2), (3, vI r1)]) [1, 3, 0] rfl ?_
    refine s_iload_n hC dX5_letter_12 rfl 1 rfl ?_
    refine s_iconst hC dX5_letter_13 ?_
    refine s_aload_n hC dX5_letter_14 rfl 0 rfl ?_
    refine s_iload_n hC dX5_letter_15 rfl 2 rfl ?_
    refine s_iconst hC dX5_letter_16 ?_
    refine s_callV_P (As := [vI r1, vI 2]) (rest := [vI 0, vI a2]) (a := b + 0) hC hKA 2 (m_X5_part hI hσ hr1 (inR_c _ rfl)) rfl (cb_of hC 2 q_c_yX5_part q_i_X5 q_m_X5_61 rfl rfl dd_yX5_part ⟨Nat.le_of_ble_eq_true rfl, Nat.le_of_ble_eq_true rfl⟩) q_i_yX5_part q_x_yX5_part (s_recv hK hI (by decide) o_Model rfl) rfl (Nat.le_of_ble_eq_true rfl) dX5_letter_17 ⟨Nat.zero_le _, Nat.zero_le _⟩ (fun r2 hr2 => ?_)
    refine s_iconst hC dX5_letter_20 ?_
    refine s_isub hC dX5_letter_21 ?_
    refine s_ck0 (fun v3 hv3 => ?_)
    refine s_callS_P (As := [vI a2, vI 0, vI v3]) (rest := []) hC hKA 3 (m_X5_within (I := I) h2 (inR_c _ rfl) hv3) rfl (cb_of hC 3 q_c_yX5_within q_i_X5 q_m_X5_130 rfl rfl dd_yX5_within ⟨Nat.le_of_ble_eq_true rfl, Nat.le_of_ble_eq_true rfl⟩) q_s_yX5_within rfl (Nat.le_of_ble_eq_true rfl) dX5_letter_22 ⟨Nat.zero_le _, Nat.zero_le _⟩ (fun r4 hr4 => ?_)
    refine s_if_eq (tgt := 37) hC dX5_letter_25 (by decide) hr4 ?_ ?_
    · refine s_sub (L' := []) [] rfl ?_
      refine s_iconst hC dX5_letter_37 ?_
      exact s_iret hC hr dX5_letter_38 (fun H hH => ⟨rfl, (inR_c _ rfl), hH⟩)
    · refine s_aload_n hC dX5_letter_28 rfl 0 rfl ?_
      refine s_iload_n hC dX5_letter_29 rfl 2 rfl ?_
      refine s_iload_n hC dX5_letter_30 rfl 1 rfl ?_
      refine s_callV_P (As := [vI r1, vI a2]) (rest := []) (a := b + 0) hC hKA 2 (m_X5_letterAt hI hσ hr1 h2) rfl (cb_of hC 2 q_c_yX5_letterAt q_i_X5 q_m_X5_88 rfl rfl dd_yX5_letterAt ⟨Nat.le_of_ble_eq_true rfl, Nat.le_of_ble_eq_true rfl⟩) q_i_yX5_letterAt q_x_yX5_letterAt (s_recv hK hI (by decide) o_Model rfl) rfl (Nat.le_of_ble_eq_true rfl) dX5_letter_31 ⟨Nat.zero_le _, Nat.zero_le _⟩ (fun r5 hr5 => ?_)
      refine s_goto (tgt := 38) hC dX5_letter_34 (by decide) ?_
      refine s_sub (L' := []) [] rfl ?_
      exact s_iret hC hr dX5_letter_38 (fun H hH => ⟨rfl, hr5, hH⟩)
set_option maxHeartbeats 4000000 in
set_option maxRecDepth 100000 in
theorem m_X5_piece {l : Launch} {G : Gt} {b : Nat} {σ : Blk} {J : Blk → Heap → Prop} (hJ : Wd G (layModel G b) 10 b J) (hσ : Rg σ) {a1 : Int} (h1 : inR a1) {a2 : Int} (h2 : inR a2) {a3 : Int} (h3 : inR a3) : MetS l yX5_piece cX5_piece 5 (some .int) { frames := 2, cells := 0, slots := 0, locals := 45 } G [.ref (b + 0), vI a1, vI a2, vI a3] (J σ) (poW J) (Ab b 10) 0 0 (f_X5_piece σ a1 a2 a3) := by
  refine met_of (by decide) (Nat.le_of_ble_eq_true rfl) ?_
  intro p e s m below meth c hC hKA hr _
  have hK := hKA.1
  unfold f_X5_piece
  refine s_sub (L' := [(0, .ref (b + 0)), (1, vI a1), (2, vI a2), (3, vI a3)]) [0, 1, 2, 3] rfl ?_
  refine s_aload_n hC dX5_piece_0 rfl 0 rfl ?_
  refine s_iload_n hC dX5_piece_1 rfl 1 rfl ?_
  refine s_callV_P (As := [vI a1]) (rest := []) (a := b + 0) hC hKA 1 (m_X5_rowWith (hJ.1 σ) hσ h1) rfl (cb_of hC 1 q_c_yX5_rowWith q_i_X5 q_m_X5_118 rfl rfl dd_yX5_rowWith ⟨Nat.le_of_ble_eq_true rfl, Nat.le_of_ble_eq_true rfl⟩) q_i_yX5_rowWith q_x_yX5_rowWith (s_recv hK (hJ.1 σ) (by decide) o_Model rfl) rfl (Nat.le_of_ble_eq_true rfl) dX5_piece_2 ⟨Nat.zero_le _, Nat.zero_le _⟩ (fun r1 hr1 => ?_)
  refine s_istore (L' := [(4, vI r1), (0, .ref (b + 0)), (1, vI a1), (2, vI a2), (3, vI a3)]) hC dX5_piece_5 (by decide) rfl ?_
  refine s_iload hC dX5_piece_7 0 rfl ?_
  refine s_bipush hC dX5_piece_9 (by decide) ?_
  refine s_icmp_ne (tgt := 16) hC dX5_piece_11 (by decide) hr1 (inR_c _ rfl) ?_ ?_
  · refine s_sub (L' := [(0, .ref (b + 0)), (2, vI a2), (3, vI a3), (4, vI r1)]) [1, 3, 4, 0] rfl ?_
    refine s_aload_n hC dX5_piece_16 rfl 0 rfl ?_
    refine s_iload hC dX5_piece_17 3 rfl ?_
    refine s_callV_U (As := [vI r1]) (rest := []) (a := b + 0) hC hKA 1 (m_X5_findPieces hJ hσ hr1) (fun _ h => h) rfl (cb_of hC 1 q_c_yX5_findPieces q_i_X5 q_m_X5_74 rfl rfl dd_yX5_findPieces ⟨Nat.le_of_ble_eq_true rfl, Nat.le_of_ble_eq_true rfl⟩) q_i_yX5_findPieces q_x_yX5_findPieces (s_recv hK (hJ.1 σ) (by decide) o_Model rfl) rfl (Nat.le_of_ble_eq_true rfl) dX5_piece_19 ⟨Nat.zero_le _, Nat.zero_le _⟩ (fun σ2 hσ2 => ?_)
    refine s_iload_n hC dX5_piece_22 rfl 1 rfl ?_
    refine s_iconst hC dX5_piece_23 ?_
    refine s_aload_n hC dX5_piece_24 rfl 0 rfl ?_
    refine s_get (b := b) hC hK (hJ.1 σ2) (by decide) o_Model rfl q_w_X5 12 (by decide) q_f_X5_65 rfl dX5_piece_25 ?_
    refine s_iconst hC dX5_piece_28 ?_
    refine s_isub hC dX5_piece_29 ?_
    refine s_ck0 (fun v3 hv3 => ?_)
    refine s_callS_P (As := [vI a2, vI 0, vI v3]) (rest := []) hC hKA 3 (m_X5_within (I := J σ2) h2 (inR_c _ rfl) hv3) rfl (cb_of hC 3 q_c_yX5_within q_i_X5 q_m_X5_130 rfl rfl dd_yX5_within ⟨Nat.le_of_ble_eq_true rfl, Nat.le_of_ble_eq_true rfl⟩) q_s_yX5_within rfl (Nat.le_of_ble_eq_true rfl) dX5_piece_30 ⟨Nat.zero_le _, Nat.zero_le _⟩ (fun r4 hr4 => ?_)
    refine s_if_ne (tgt := 38) hC dX5_piece_33 (by decide) hr4 ?_ ?_
    · refine s_sub (L' := [(0, .ref (b + 0)), (2, vI a2), (3, vI a3)]) [0, 1, 2] rfl ?_
      refine s_iload_n hC dX5_piece_38 rfl 2 rfl ?_
      refine s_ite (fun hz => ?_) (fun hz0 => ?_)
      · refine s_tabIn (tgt := 64) hC 0 dX5_piece_39 h3 hz (by decide) (by decide) rfl (by decide) ?_
        refine s_sub (L' := [(0, .ref (b + 0)), (2, vI a2)]) [0, 1] rfl ?_
        refine s_aload_n hC dX5_piece_64 rfl 0 rfl ?_
        refine s_get (b := b) hC hK (hJ.1 σ2) (by decide) o_Model rfl q_w_X5 11 (by decide) q_f_X5_34 rfl dX5_piece_65 ?_
        refine s_iload_n hC dX5_piece_68 rfl 1 rfl ?_
        refine s_iaload hC hK (hJ.1 σ2) hσ2 (by decide) a_Model_9 dX5_piece_69 (fun v5 hv5 => ?_)
        refine s_bipush hC dX5_piece_70 (by decide) ?_
        refine s_idiv hC dX5_piece_72 hv5 (inR_c _ rfl) (by decide) (fun v6 hv6 => ?_)
        exact s_iret hC hr dX5_piece_73 (fun H hH => ⟨rfl, hv6, hσ2, hH⟩)
      · refine s_ite (fun hz => ?_) (fun hz1 => ?_)
        · refine s_tabIn (tgt := 74) hC 1 dX5_piece_39 h3 hz (by decide) (by decide) rfl (by decide) ?_
          refine s_sub (L' := [(0, .ref (b + 0)), (2, vI a2)]) [0, 1] rfl ?_
          refine s_aload_n hC dX5_piece_74 rfl 0 rfl ?_
          refine s_get (b := b) hC hK (hJ.1 σ2) (by decide) o_Model rfl q_w_X5 11 (by decide) q_f_X5_34 rfl dX5_piece_75 ?_
          refine s_iload_n hC dX5_piece_78 rfl 1 rfl ?_
          refine s_iaload hC hK (hJ.1 σ2) hσ2 (by decide) a_Model_9 dX5_piece_79 (fun v7 hv7 => ?_)
          refine s_bipush hC dX5_piece_80 (by decide) ?_
          refine s_irem hC dX5_piece_82 hv7 (inR_c _ rfl) (by decide) (fun v8 hv8 => ?_)
          exact s_iret hC hr dX5_piece_83 (fun H hH => ⟨rfl, hv8, hσ2, hH⟩)
        · refine s_ite (fun hz => ?_) (fun hz2 => ?_)
          · refine s_tabIn (tgt := 84) hC 2 dX5_piece_39 h3 hz (by decide) (by decide) rfl (by decide) ?_
            refine s_sub (L' := [(0, .ref (b + 0)), (2, vI a2)]) [0, 1] rfl ?_
            refine s_aload_n hC dX5_piece_84 rfl 0 rfl ?_
            refine s_get (b := b) hC hK (hJ.1 σ2) (by decide) o_Model rfl q_w_X5 0 (by decide) q_f_X5_7 rfl dX5_piece_85 ?_
            refine s_sipush hC dX5_piece_88 (by decide) ?_
            refine s_aload_n hC dX5_piece_91 rfl 0 rfl ?_
            refine s_get (b := b) hC hK (hJ.1 σ2) (by decide) o_Model rfl q_w_X5 11 (by decide) q_f_X5_34 rfl dX5_piece_92 ?_
            refine s_iload_n hC dX5_piece_95 rfl 1 rfl ?_
            refine s_iaload hC hK (hJ.1 σ2) hσ2 (by decide) a_Model_9 dX5_piece_96 (fun v9 hv9 => ?_)
            refine s_iadd hC dX5_piece_97 ?_
            refine s_iaload hC hK (hJ.1 σ2) hσ2 (by decide) a_Model_1 dX5_piece_98 (fun v10 hv10 => ?_)
            refine s_callS_P (As := [vI v10]) (rest := []) hC hKA 1 (m_X5_lettersOf (I := J σ2) hv10) rfl (cb_of hC 1 q_c_yX5_lettersOf q_i_X5 q_m_X5_49 rfl rfl dd_yX5_lettersOf ⟨Nat.le_of_ble_eq_true rfl, Nat.le_of_ble_eq_true rfl⟩) q_s_yX5_lettersOf rfl (Nat.le_of_ble_eq_true rfl) dX5_piece_99 ⟨Nat.zero_le _, Nat.zero_le _⟩ (fun r11 hr11 => ?_)
            exact s_iret hC hr dX5_piece_102 (fun H hH => ⟨rfl, hr11, hσ2, hH⟩)
          · refine s_tabOut (tgt := 103) hC dX5_piece_39 h3 (by omega) (by decide) ?_
            refine s_sub (L' := []) [] rfl ?_
            refine s_bipush hC dX5_piece_103 (by decide) ?_
            exact s_iret hC hr dX5_piece_105 (fun H hH => ⟨rfl, (inR_c _ rfl), hσ2, hH⟩)
    · refine s_sub (L' := []) [] rfl ?_
      refine s_iconst hC dX5_piece_36 ?_
      exact s_iret hC hr dX5_piece_37 (fun H hH => ⟨rfl, (inR_c _ rfl), hσ2, hH⟩)
  · refine s_sub (L' := []) [] rfl ?_
    refine s_iconst hC dX5_piece_14 ?_
    exact s_iret hC hr dX5_piece_15 (fun H hH => ⟨rfl, (inR_c _ rfl), hσ, hH⟩)
set_option maxHeartbeats 4000000 in
set_option maxRecDepth 100000 in
theorem m_X5_page {l : Launch} {G : Gt} {b : Nat} {σ : Blk} {I : Heap → Prop} (hI : ∀ H, I H → Bk G (layModel G b) 10 b σ H) (hσ : Rg σ) {a1 : Int} (h1 : inR a1) {a2 : Int} (h2 : inR a2) : MetS l yX5_page cX5_page 3 (some .int) { frames := 3, cells := 0, slots := 0, locals := 63 } G [.ref (b + 0), vI a1, vI a2] I (poP I) (fun _ => False) 0 0 (f_X5_page σ a1 a2) := by
  refine met_of (by decide) (Nat.le_of_ble_eq_true rfl) ?_
  intro p e s m below meth c hC hKA hr _
  have hK := hKA.1
  unfold f_X5_page
  refine s_sub (L' := [(0, .ref (b + 0)), (1, vI a1), (2, vI a2)]) [0, 1, 2] rfl ?_
  refine s_iload_n hC dX5_page_0 rfl 1 rfl ?_
  refine s_iconst hC dX5_page_1 ?_
  refine s_bipush hC dX5_page_2 (by decide) ?_
  refine s_callS_P (As := [vI a1, vI 0, vI 9]) (rest := []) hC hKA 3 (m_X5_within (I := I) h1 (inR_c _ rfl) (inR_c _ rfl)) rfl (cb_of hC 3 q_c_yX5_within q_i_X5 q_m_X5_130 rfl rfl dd_yX5_within ⟨Nat.le_of_ble_eq_true rfl, Nat.le_of_ble_eq_true rfl⟩) q_s_yX5_within rfl (Nat.le_of_ble_eq_true rfl) dX5_page_4 ⟨Nat.zero_le _, Nat.zero_le _⟩ (fun r1 hr1 => ?_)
  refine s_if_ne (tgt := 12) hC dX5_page_7 (by decide) hr1 ?_ ?_
  · refine s_iload_n hC dX5_page_12 rfl 2 rfl ?_
    refine s_ite (fun hz => ?_) (fun hz0 => ?_)
    · refine s_tabIn (tgt := 52) hC 0 dX5_page_13 h2 hz (by decide) (by decide) rfl (by decide) ?_
      refine s_sub (L' := [(0, .ref (b + 0)), (1, vI a1)]) [0, 1] rfl ?_
      refine s_aload_n hC dX5_page_52 rfl 0 rfl ?_
      refine s_iload_n hC dX5_page_53 rfl 1 rfl ?_
      refine s_callV_P (As := [vI a1]) (rest := []) (a := b + 0) hC hKA 1 (m_X5_freeOf hI hσ h1) rfl (cb_of hC 1 q_c_yX5_freeOf q_i_X5 q_m_X5_55 rfl rfl dd_yX5_freeOf ⟨Nat.le_of_ble_eq_true rfl, Nat.le_of_ble_eq_true rfl⟩) q_i_yX5_freeOf q_x_yX5_freeOf (s_recv hK hI (by decide) o_Model rfl) rfl (Nat.le_of_ble_eq_true rfl) dX5_page_54 ⟨Nat.zero_le _, Nat.zero_le _⟩ (fun r2 hr2 => ?_)
      exact s_iret hC hr dX5_page_57 (fun H hH => ⟨rfl, hr2, hH⟩)
    · refine s_ite (fun hz => ?_) (fun hz1 => ?_)
      · refine s_tabIn (tgt := 58) hC 1 dX5_page_13 h2 hz (by decide) (by decide) rfl (by decide) ?_
        refine s_sub (L' := [(0, .ref (b + 0)), (1, vI a1)]) [0, 1] rfl ?_
        refine s_aload_n hC dX5_page_58 rfl 0 rfl ?_
        refine s_iload_n hC dX5_page_59 rfl 1 rfl ?_
        refine s_callV_P (As := [vI a1]) (rest := []) (a := b + 0) hC hKA 1 (m_X5_slotsOf hI hσ h1) rfl (cb_of hC 1 q_c_yX5_slotsOf q_i_X5 q_m_X5_160 rfl rfl dd_yX5_slotsOf ⟨Nat.le_of_ble_eq_true rfl, Nat.le_of_ble_eq_true rfl⟩) q_i_yX5_slotsOf q_x_yX5_slotsOf (s_recv hK hI (by decide) o_Model rfl) rfl (Nat.le_of_ble_eq_true rfl) dX5_page_60 ⟨Nat.zero_le _, Nat.zero_le _⟩ (fun r3 hr3 => ?_)
        exact s_iret hC hr dX5_page_63 (fun H hH => ⟨rfl, hr3, hH⟩)
      · refine s_ite (fun hz => ?_) (fun hz2 => ?_)
        · refine s_tabIn (tgt := 64) hC 2 dX5_page_13 h2 hz (by decide) (by decide) rfl (by decide) ?_
          refine s_sub (L' := [(0, .ref (b + 0)), (1, vI a1)]) [0, 1] rfl ?_
          refine s_aload_n hC dX5_page_64 rfl 0 rfl ?_
          refine s_iload_n hC dX5_page_65 rfl 1 rfl ?_
          refine s_iconst hC dX5_page_66 ?_
          refine s_callV_P (As := [vI a1, vI 1]) (rest := []) (a := b + 0) hC hKA 2 (m_X5_thingsOn hI hσ h1 (inR_c _ rfl)) rfl (cb_of hC 2 q_c_yX5_thingsOn q_i_X5 q_m_X5_173 rfl rfl dd_yX5_thingsOn ⟨Nat.le_of_ble_eq_true rfl, Nat.le_of_ble_eq_true rfl⟩) q_i_yX5_thingsOn q_x_yX5_thingsOn (s_recv hK hI (by decide) o_Model rfl) rfl (Nat.le_of_ble_eq_true rfl) dX5_page_67 ⟨Nat.zero_le _, Nat.zero_le _⟩ (fun r4 hr4 => ?_)
          exact s_iret hC hr dX5_page_70 (fun H hH => ⟨rfl, hr4, hH⟩)
        · refine s_ite (fun hz => ?_) (fun hz3 => ?_)
          · refine s_tabIn (tgt := 71) hC 3 dX5_page_13 h2 hz (by decide) (by decide) rfl (by decide) ?_
            refine s_sub (L' := [(0, .ref (b + 0)), (1, vI a1)]) [0, 1] rfl ?_
            refine s_aload_n hC dX5_page_71 rfl 0 rfl ?_
            refine s_iload_n hC dX5_page_72 rfl 1 rfl ?_
            refine s_iconst hC dX5_page_73 ?_
            refine s_callV_P (As := [vI a1, vI 2]) (rest := []) (a := b + 0) hC hKA 2 (m_X5_thingsOn hI hσ h1 (inR_c _ rfl)) rfl (cb_of hC 2 q_c_yX5_thingsOn q_i_X5 q_m_X5_173 rfl rfl dd_yX5_thingsOn ⟨Nat.le_of_ble_eq_true rfl, Nat.le_of_ble_eq_true rfl⟩) q_i_yX5_thingsOn q_x_yX5_thingsOn (s_recv hK hI (by decide) o_Model rfl) rfl (Nat.le_of_ble_eq_true rfl) dX5_page_74 ⟨Nat.zero_le _, Nat.zero_le _⟩ (fun r5 hr5 => ?_)
            exact s_iret hC hr dX5_page_77 (fun H hH => ⟨rfl, hr5, hH⟩)
          · refine s_ite (fun hz => ?_) (fun hz4 => ?_)
            · refine s_tabIn (tgt := 78) hC 4 dX5_page_13 h2 hz (by decide) (by decide) rfl (by decide) ?_
              refine s_sub (L' := [(0, .ref (b + 0)), (1, vI a1)]) [0, 1] rfl ?_
              refine s_aload_n hC dX5_page_78 rfl 0 rfl ?_
              refine s_iload_n hC dX5_page_79 rfl 1 rfl ?_
              refine s_iconst hC dX5_page_80 ?_
              refine s_callV_P (As := [vI a1, vI 3]) (rest := []) (a := b + 0) hC hKA 2 (m_X5_thingsOn hI hσ h1 (inR_c _ rfl)) rfl (cb_of hC 2 q_c_yX5_thingsOn q_i_X5 q_m_X5_173 rfl rfl dd_yX5_thingsOn ⟨Nat.le_of_ble_eq_true rfl, Nat.le_of_ble_eq_true rfl⟩) q_i_yX5_thingsOn q_x_yX5_thingsOn (s_recv hK hI (by decide) o_Model rfl) rfl (Nat.le_of_ble_eq_true rfl) dX5_page_81 ⟨Nat.zero_le _, Nat.zero_le _⟩ (fun r6 hr6 => ?_)
              exact s_iret hC hr dX5_page_84 (fun H hH => ⟨rfl, hr6, hH⟩)
            · refine s_ite (fun hz => ?_) (fun hz5 => ?_)
              · refine s_tabIn (tgt := 85) hC 5 dX5_page_13 h2 hz (by decide) (by decide) rfl (by decide) ?_
                refine s_sub (L' := [(0, .ref (b + 0)), (1, vI a1)]) [0, 1] rfl ?_
                refine s_aload_n hC dX5_page_85 rfl 0 rfl ?_
                refine s_iload_n hC dX5_page_86 rfl 1 rfl ?_
                refine s_callV_P (As := [vI a1]) (rest := []) (a := b + 0) hC hKA 1 (m_X5_slotsOf hI hσ h1) rfl (cb_of hC 1 q_c_yX5_slotsOf q_i_X5 q_m_X5_160 rfl rfl dd_yX5_slotsOf ⟨Nat.le_of_ble_eq_true rfl, Nat.le_of_ble_eq_true rfl⟩) q_i_yX5_slotsOf q_x_yX5_slotsOf (s_recv hK hI (by decide) o_Model rfl) rfl (Nat.le_of_ble_eq_true rfl) dX5_page_87 ⟨Nat.zero_le _, Nat.zero_le _⟩ (fun r7 hr7 => ?_)
                refine s_aload_n hC dX5_page_90 rfl 0 rfl ?_
                refine s_iload_n hC dX5_page_91 rfl 1 rfl ?_
                refine s_iconst hC dX5_page_92 ?_
                refine s_callV_P (As := [vI a1, vI 0]) (rest := [vI r7]) (a := b + 0) hC hKA 2 (m_X5_thingsOn hI hσ h1 (inR_c _ rfl)) rfl (cb_of hC 2 q_c_yX5_thingsOn q_i_X5 q_m_X5_173 rfl rfl dd_yX5_thingsOn ⟨Nat.le_of_ble_eq_true rfl, Nat.le_of_ble_eq_true rfl⟩) q_i_yX5_thingsOn q_x_yX5_thingsOn (s_recv hK hI (by decide) o_Model rfl) rfl (Nat.le_of_ble_eq_true rfl) dX5_page_93 ⟨Nat.zero_le _, Nat.zero_le _⟩ (fun r8 hr8 => ?_)
                refine s_isub hC dX5_page_96 ?_
                refine s_ck0 (fun v9 hv9 => ?_)
                exact s_iret hC hr dX5_page_97 (fun H hH => ⟨rfl, hv9, hH⟩)
              · refine s_tabOut (tgt := 98) hC dX5_page_13 h2 (by omega) (by decide) ?_
                refine s_sub (L' := []) [] rfl ?_
                refine s_bipush hC dX5_page_98 (by decide) ?_
                exact s_iret hC hr dX5_page_100 (fun H hH => ⟨rfl, (inR_c _ rfl), hH⟩)
  · refine s_sub (L' := []) [] rfl ?_
    refine s_iconst hC dX5_page_10 ?_
    exact s_iret hC hr dX5_page_11 (fun H hH => ⟨rfl, (inR_c _ rfl), hH⟩)
set_option maxHeartbeats 4000000 in
set_option maxRecDepth 100000 in
theorem m_X5_slot {l : Launch} {G : Gt} {b : Nat} {σ : Blk} {I : Heap → Prop} (hI : ∀ H, I H → Bk G (layModel G b) 10 b σ H) (hσ : Rg σ) {a1 : Int} (h1 : inR a1) {a2 : Int} (h2 : inR a2) {a3 : Int} (h3 : inR a3) : MetS l yX5_slot cX5_slot 5 (some .int) { frames := 2, cells := 0, slots := 0, locals := 40 } G [.ref (b + 0), vI a1, vI a2, vI a3] I (poP I) (fun _ => False) 0 0 (f_X5_slot σ a1 a2 a3) := by
  refine met_of (by decide) (Nat.le_of_ble_eq_true rfl) ?_
  intro p e s m below meth c hC hKA hr _
  have hK := hKA.1
  unfold f_X5_slot
  refine s_sub (L' := [(0, .ref (b + 0)), (1, vI a1), (2, vI a2), (3, vI a3)]) [0, 1, 2, 3] rfl ?_
  refine s_iload_n hC dX5_slot_0 rfl 1 rfl ?_
  refine s_iconst hC dX5_slot_1 ?_
  refine s_bipush hC dX5_slot_2 (by decide) ?_
  refine s_callS_P (As := [vI a1, vI 0, vI 9]) (rest := []) hC hKA 3 (m_X5_within (I := I) h1 (inR_c _ rfl) (inR_c _ rfl)) rfl (cb_of hC 3 q_c_yX5_within q_i_X5 q_m_X5_130 rfl rfl dd_yX5_within ⟨Nat.le_of_ble_eq_true rfl, Nat.le_of_ble_eq_true rfl⟩) q_s_yX5_within rfl (Nat.le_of_ble_eq_true rfl) dX5_slot_4 ⟨Nat.zero_le _, Nat.zero_le _⟩ (fun r1 hr1 => ?_)
  refine s_if_eq (tgt := 25) hC dX5_slot_7 (by decide) hr1 ?_ ?_
  · refine s_sub (L' := []) [] rfl ?_
    refine s_iconst hC dX5_slot_25 ?_
    exact s_iret hC hr dX5_slot_26 (fun H hH => ⟨rfl, (inR_c _ rfl), hH⟩)
  · refine s_iload_n hC dX5_slot_10 rfl 2 rfl ?_
    refine s_iconst hC dX5_slot_11 ?_
    refine s_aload_n hC dX5_slot_12 rfl 0 rfl ?_
    refine s_iload_n hC dX5_slot_13 rfl 1 rfl ?_
    refine s_callV_P (As := [vI a1]) (rest := [vI 0, vI a2]) (a := b + 0) hC hKA 1 (m_X5_slotsOf hI hσ h1) rfl (cb_of hC 1 q_c_yX5_slotsOf q_i_X5 q_m_X5_160 rfl rfl dd_yX5_slotsOf ⟨Nat.le_of_ble_eq_true rfl, Nat.le_of_ble_eq_true rfl⟩) q_i_yX5_slotsOf q_x_yX5_slotsOf (s_recv hK hI (by decide) o_Model rfl) rfl (Nat.le_of_ble_eq_true rfl) dX5_slot_14 ⟨Nat.zero_le _, Nat.zero_le _⟩ (fun r2 hr2 => ?_)
    refine s_iconst hC dX5_slot_17 ?_
    refine s_isub hC dX5_slot_18 ?_
    refine s_ck0 (fun v3 hv3 => ?_)
    refine s_callS_P (As := [vI a2, vI 0, vI v3]) (rest := []) hC hKA 3 (m_X5_within (I := I) h2 (inR_c _ rfl) hv3) rfl (cb_of hC 3 q_c_yX5_within q_i_X5 q_m_X5_130 rfl rfl dd_yX5_within ⟨Nat.le_of_ble_eq_true rfl, Nat.le_of_ble_eq_true rfl⟩) q_s_yX5_within rfl (Nat.le_of_ble_eq_true rfl) dX5_slot_19 ⟨Nat.zero_le _, Nat.zero_le _⟩ (fun r4 hr4 => ?_)
    refine s_if_ne (tgt := 27) hC dX5_slot_22 (by decide) hr4 ?_ ?_
    · refine s_aload_n hC dX5_slot_27 rfl 0 rfl ?_
      refine s_get (b := b) hC hK hI (by decide) o_Model rfl q_w_X5 0 (by decide) q_f_X5_7 rfl dX5_slot_28 ?_
      refine s_sipush hC dX5_slot_31 (by decide) ?_
      refine s_bipush hC dX5_slot_34 (by decide) ?_
      refine s_iload_n hC dX5_slot_36 rfl 1 rfl ?_
      refine s_imul hC dX5_slot_37 ?_
      refine s_iadd hC dX5_slot_38 ?_
      refine s_iload_n hC dX5_slot_39 rfl 2 rfl ?_
      refine s_iadd hC dX5_slot_40 ?_
      refine s_iaload hC hK hI hσ (by decide) a_Model_1 dX5_slot_41 (fun v5 hv5 => ?_)
      refine s_istore (L' := [(4, vI v5), (0, .ref (b + 0)), (1, vI a1), (2, vI a2), (3, vI a3)]) hC dX5_slot_42 (by decide) rfl ?_
      refine s_iload_n hC dX5_slot_44 rfl 4 rfl ?_
      refine s_ite (fun hz => ?_) (fun hz0 => ?_)
      · refine s_tabIn (tgt := 72) hC 0 dX5_slot_45 h3 hz (by decide) (by decide) rfl (by decide) ?_
        refine s_sub (L' := [(4, vI v5)]) [0] rfl ?_
        refine s_iload hC dX5_slot_72 0 rfl ?_
        refine s_callS_P (As := [vI v5]) (rest := []) hC hKA 1 (m_X5_kindOf (I := I) hv5) rfl (cb_of hC 1 q_c_yX5_kindOf q_i_X5 q_m_X5_45 rfl rfl dd_yX5_kindOf ⟨Nat.le_of_ble_eq_true rfl, Nat.le_of_ble_eq_true rfl⟩) q_s_yX5_kindOf rfl (Nat.le_of_ble_eq_true rfl) dX5_slot_74 ⟨Nat.zero_le _, Nat.zero_le _⟩ (fun r6 hr6 => ?_)
        exact s_iret hC hr dX5_slot_77 (fun H hH => ⟨rfl, hr6, hH⟩)
      · refine s_ite (fun hz => ?_) (fun hz1 => ?_)
        · refine s_tabIn (tgt := 78) hC 1 dX5_slot_45 h3 hz (by decide) (by decide) rfl (by decide) ?_
          refine s_sub (L' := [(0, .ref (b + 0)), (4, vI v5)]) [1, 0] rfl ?_
          refine s_iload hC dX5_slot_78 1 rfl ?_
          refine s_if_ne (tgt := 88) hC dX5_slot_80 (by decide) hv5 ?_ ?_
          · refine s_aload_n hC dX5_slot_88 rfl 0 rfl ?_
            refine s_iload hC dX5_slot_89 1 rfl ?_
            refine s_callS_P (As := [vI v5]) (rest := [.ref (b + 0)]) hC hKA 1 (m_X5_rowOf (I := I) hv5) rfl (cb_of hC 1 q_c_yX5_rowOf q_i_X5 q_m_X5_68 rfl rfl dd_yX5_rowOf ⟨Nat.le_of_ble_eq_true rfl, Nat.le_of_ble_eq_true rfl⟩) q_s_yX5_rowOf rfl (Nat.le_of_ble_eq_true rfl) dX5_slot_91 ⟨Nat.zero_le _, Nat.zero_le _⟩ (fun r7 hr7 => ?_)
            refine s_iconst hC dX5_slot_94 ?_
            refine s_callV_P (As := [vI r7, vI 1]) (rest := []) (a := b + 0) hC hKA 2 (m_X5_part hI hσ hr7 (inR_c _ rfl)) rfl (cb_of hC 2 q_c_yX5_part q_i_X5 q_m_X5_61 rfl rfl dd_yX5_part ⟨Nat.le_of_ble_eq_true rfl, Nat.le_of_ble_eq_true rfl⟩) q_i_yX5_part q_x_yX5_part (s_recv hK hI (by decide) o_Model rfl) rfl (Nat.le_of_ble_eq_true rfl) dX5_slot_95 ⟨Nat.zero_le _, Nat.zero_le _⟩ (fun r8 hr8 => ?_)
            refine s_sub (L' := []) [] rfl ?_
            exact s_iret hC hr dX5_slot_98 (fun H hH => ⟨rfl, hr8, hH⟩)
          · refine s_sub (L' := []) [] rfl ?_
            refine s_bipush hC dX5_slot_83 (by decide) ?_
            refine s_goto (tgt := 98) hC dX5_slot_85 (by decide) ?_
            exact s_iret hC hr dX5_slot_98 (fun H hH => ⟨rfl, (inR_c _ rfl), hH⟩)
        · refine s_ite (fun hz => ?_) (fun hz2 => ?_)
          · refine s_tabIn (tgt := 99) hC 2 dX5_slot_45 h3 hz (by decide) (by decide) rfl (by decide) ?_
            refine s_sub (L' := [(4, vI v5)]) [0] rfl ?_
            refine s_iload hC dX5_slot_99 0 rfl ?_
            refine s_callS_P (As := [vI v5]) (rest := []) hC hKA 1 (m_X5_cellsOf (I := I) hv5) rfl (cb_of hC 1 q_c_yX5_cellsOf q_i_X5 q_m_X5_52 rfl rfl dd_yX5_cellsOf ⟨Nat.le_of_ble_eq_true rfl, Nat.le_of_ble_eq_true rfl⟩) q_s_yX5_cellsOf rfl (Nat.le_of_ble_eq_true rfl) dX5_slot_101 ⟨Nat.zero_le _, Nat.zero_le _⟩ (fun r9 hr9 => ?_)
            exact s_iret hC hr dX5_slot_104 (fun H hH => ⟨rfl, hr9, hH⟩)
          · refine s_tabOut (tgt := 105) hC dX5_slot_45 h3 (by omega) (by decide) ?_
            refine s_sub (L' := []) [] rfl ?_
            refine s_bipush hC dX5_slot_105 (by decide) ?_
            exact s_iret hC hr dX5_slot_107 (fun H hH => ⟨rfl, (inR_c _ rfl), hH⟩)
    · refine s_sub (L' := []) [] rfl ?_
      refine s_iconst hC dX5_slot_25 ?_
      exact s_iret hC hr dX5_slot_26 (fun H hH => ⟨rfl, (inR_c _ rfl), hH⟩)
set_option maxHeartbeats 4000000 in
set_option maxRecDepth 100000 in
theorem m_X5_thingsOf {l : Launch} {G : Gt} {b : Nat} {σ : Blk} {I : Heap → Prop} (hI : ∀ H, I H → Bk G (layModel G b) 10 b σ H) (hσ : Rg σ) {a1 : Int} (h1 : inR a1) : MetS l yX5_thingsOf cX5_thingsOf 4 (some .int) { frames := 2, cells := 0, slots := 0, locals := 45 } G [.ref (b + 0), vI a1] I (poP I) (fun _ => False) 0 0 (f_X5_thingsOf σ a1) := by
  refine met_of (by decide) (Nat.le_of_ble_eq_true rfl) ?_
  intro p e s m below meth c hC hKA hr _
  have hK := hKA.1
  unfold f_X5_thingsOf
  refine s_sub (L' := [(0, .ref (b + 0)), (1, vI a1)]) [0, 1] rfl ?_
  refine s_iconst hC dX5_thingsOf_0 ?_
  refine s_istore_n (L' := [(2, vI 0), (0, .ref (b + 0)), (1, vI a1)]) hC dX5_thingsOf_1 rfl (by decide) rfl ?_
  refine s_iconst hC dX5_thingsOf_2 ?_
  refine s_istore_n (L' := [(3, vI 0), (2, vI 0), (0, .ref (b + 0)), (1, vI a1)]) hC dX5_thingsOf_3 rfl (by decide) rfl ?_
  refine s_sub (L' := [(0, .ref (b + 0)), (1, vI a1), (2, vI 0), (3, vI 0)]) [2, 3, 1, 0] rfl ?_
  refine s_lp_II (F := f_X5_thingsOf_L4 σ a1) 4 (fun x1 x2 => [(0, .ref (b + 0)), (1, vI a1), (2, vI x1), (3, vI x2)]) (fun _ _ => rfl) (fun n ih4 x1 x2 hx1 hx2 => ?_) fu 0 0 (inR_c _ rfl) (inR_c _ rfl)
  rw [f_X5_thingsOf_L4]
  refine s_iload_n hC dX5_thingsOf_4 rfl 3 rfl ?_
  refine s_bipush hC dX5_thingsOf_5 (by decide) ?_
  refine s_icmp_ge (tgt := 25) hC dX5_thingsOf_7 (by decide) hx2 (inR_c _ rfl) ?_ ?_
  · refine s_sub (L' := [(2, vI x1)]) [2] rfl ?_
    refine s_iload_n hC dX5_thingsOf_25 rfl 0 rfl ?_
    exact s_iret hC hr dX5_thingsOf_26 (fun H hH => ⟨rfl, hx1, hH⟩)
  · refine s_iload_n hC dX5_thingsOf_10 rfl 2 rfl ?_
    refine s_aload_n hC dX5_thingsOf_11 rfl 0 rfl ?_
    refine s_iload_n hC dX5_thingsOf_12 rfl 3 rfl ?_
    refine s_iload_n hC dX5_thingsOf_13 rfl 1 rfl ?_
    refine s_callV_P (As := [vI x2, vI a1]) (rest := [vI x1]) (a := b + 0) hC hKA 2 (m_X5_thingsOn hI hσ hx2 h1) rfl (cb_of hC 2 q_c_yX5_thingsOn q_i_X5 q_m_X5_173 rfl rfl dd_yX5_thingsOn ⟨Nat.le_of_ble_eq_true rfl, Nat.le_of_ble_eq_true rfl⟩) q_i_yX5_thingsOn q_x_yX5_thingsOn (s_recv hK hI (by decide) o_Model rfl) rfl (Nat.le_of_ble_eq_true rfl) dX5_thingsOf_14 ⟨Nat.zero_le _, Nat.zero_le _⟩ (fun r3 hr3 => ?_)
    refine s_iadd hC dX5_thingsOf_17 ?_
    refine s_ck0 (fun v4 hv4 => ?_)
    refine s_istore_n (L' := [(2, vI v4), (0, .ref (b + 0)), (1, vI a1), (3, vI x2)]) hC dX5_thingsOf_18 rfl (by decide) rfl ?_
    refine s_iincK hC dX5_thingsOf_19 3 rfl (by decide) (fun v5 => [(3, vI v5), (2, vI v4), (0, .ref (b + 0)), (1, vI a1)]) (fun _ => rfl) (fun v5 hv5 => ?_)
    refine s_goto (tgt := 4) hC dX5_thingsOf_22 (by decide) ?_
    refine s_sub (L' := [(0, .ref (b + 0)), (1, vI a1), (2, vI v4), (3, vI v5)]) [2, 3, 1, 0] rfl ?_
    exact ih4 v4 v5 hv4 hv5
set_option maxHeartbeats 4000000 in
set_option maxRecDepth 100000 in
theorem m_X5_allFree {l : Launch} {G : Gt} {b : Nat} {σ : Blk} {I : Heap → Prop} (hI : ∀ H, I H → Bk G (layModel G b) 10 b σ H) (hσ : Rg σ)  : MetS l yX5_allFree cX5_allFree 3 (some .int) { frames := 3, cells := 0, slots := 0, locals := 63 } G [.ref (b + 0)] I (poP I) (fun _ => False) 0 0 (f_X5_allFree σ) := by
  refine met_of (by decide) (Nat.le_of_ble_eq_true rfl) ?_
  intro p e s m below meth c hC hKA hr _
  have hK := hKA.1
  unfold f_X5_allFree
  refine s_sub (L' := [(0, .ref (b + 0))]) [0] rfl ?_
  refine s_iconst hC dX5_allFree_0 ?_
  refine s_istore_n (L' := [(1, vI 0), (0, .ref (b + 0))]) hC dX5_allFree_1 rfl (by decide) rfl ?_
  refine s_iconst hC dX5_allFree_2 ?_
  refine s_istore_n (L' := [(2, vI 0), (1, vI 0), (0, .ref (b + 0))]) hC dX5_allFree_3 rfl (by decide) rfl ?_
  refine s_sub (L' := [(0, .ref (b + 0)), (1, vI 0), (2, vI 0)]) [2, 1, 0] rfl ?_
  refine s_lp_II (F := f_X5_allFree_L4 σ) 4 (fun x1 x2 => [(0, .ref (b + 0)), (1, vI x1), (2, vI x2)]) (fun _ _ => rfl) (fun n ih4 x1 x2 hx1 hx2 => ?_) fu 0 0 (inR_c _ rfl) (inR_c _ rfl)
  rw [f_X5_allFree_L4]
  refine s_iload_n hC dX5_allFree_4 rfl 2 rfl ?_
  refine s_bipush hC dX5_allFree_5 (by decide) ?_
  refine s_icmp_ge (tgt := 24) hC dX5_allFree_7 (by decide) hx2 (inR_c _ rfl) ?_ ?_
  · refine s_sub (L' := [(1, vI x1)]) [1] rfl ?_
    refine s_iload_n hC dX5_allFree_24 rfl 0 rfl ?_
    exact s_iret hC hr dX5_allFree_25 (fun H hH => ⟨rfl, hx1, hH⟩)
  · refine s_iload_n hC dX5_allFree_10 rfl 1 rfl ?_
    refine s_aload_n hC dX5_allFree_11 rfl 0 rfl ?_
    refine s_iload_n hC dX5_allFree_12 rfl 2 rfl ?_
    refine s_callV_P (As := [vI x2]) (rest := [vI x1]) (a := b + 0) hC hKA 1 (m_X5_freeOf hI hσ hx2) rfl (cb_of hC 1 q_c_yX5_freeOf q_i_X5 q_m_X5_55 rfl rfl dd_yX5_freeOf ⟨Nat.le_of_ble_eq_true rfl, Nat.le_of_ble_eq_true rfl⟩) q_i_yX5_freeOf q_x_yX5_freeOf (s_recv hK hI (by decide) o_Model rfl) rfl (Nat.le_of_ble_eq_true rfl) dX5_allFree_13 ⟨Nat.zero_le _, Nat.zero_le _⟩ (fun r3 hr3 => ?_)
    refine s_iadd hC dX5_allFree_16 ?_
    refine s_ck0 (fun v4 hv4 => ?_)
    refine s_istore_n (L' := [(1, vI v4), (0, .ref (b + 0)), (2, vI x2)]) hC dX5_allFree_17 rfl (by decide) rfl ?_
    refine s_iincK hC dX5_allFree_18 2 rfl (by decide) (fun v5 => [(2, vI v5), (1, vI v4), (0, .ref (b + 0))]) (fun _ => rfl) (fun v5 hv5 => ?_)
    refine s_goto (tgt := 4) hC dX5_allFree_21 (by decide) ?_
    refine s_sub (L' := [(0, .ref (b + 0)), (1, vI v4), (2, vI v5)]) [2, 1, 0] rfl ?_
    exact ih4 v4 v5 hv4 hv5
set_option maxHeartbeats 4000000 in
set_option maxRecDepth 100000 in
theorem m_X5_sumOfCosts {l : Launch} {G : Gt} {b : Nat} {σ : Blk} {J : Blk → Heap → Prop} (hJ : Wd G (layModel G b) 10 b J) (hσ : Rg σ)  : MetS l yX5_sumOfCosts cX5_sumOfCosts 3 (some .int) { frames := 3, cells := 0, slots := 0, locals := 68 } G [.ref (b + 0)] (J σ) (poW J) (Ab b 10) 0 0 (f_X5_sumOfCosts σ) := by
  refine met_of (by decide) (Nat.le_of_ble_eq_true rfl) ?_
  intro p e s m below meth c hC hKA hr _
  have hK := hKA.1
  unfold f_X5_sumOfCosts
  refine s_sub (L' := [(0, .ref (b + 0))]) [0] rfl ?_
  refine s_iconst hC dX5_sumOfCosts_0 ?_
  refine s_istore_n (L' := [(1, vI 0), (0, .ref (b + 0))]) hC dX5_sumOfCosts_1 rfl (by decide) rfl ?_
  refine s_iconst hC dX5_sumOfCosts_2 ?_
  refine s_istore_n (L' := [(2, vI 0), (1, vI 0), (0, .ref (b + 0))]) hC dX5_sumOfCosts_3 rfl (by decide) rfl ?_
  refine s_sub (L' := [(0, .ref (b + 0)), (1, vI 0), (2, vI 0)]) [2, 1, 0] rfl ?_
  refine s_lp_IIB (J := J) (F := f_X5_sumOfCosts_L4) 4 (fun x1 x2 => [(0, .ref (b + 0)), (1, vI x1), (2, vI x2)]) (fun _ _ _ => rfl) (fun n ih4 x1 x2 σ3 hx1 hx2 hσ3 => ?_) fu 0 0 σ (inR_c _ rfl) (inR_c _ rfl) hσ
  rw [f_X5_sumOfCosts_L4]
  refine s_iload_n hC dX5_sumOfCosts_4 rfl 2 rfl ?_
  refine s_bipush hC dX5_sumOfCosts_5 (by decide) ?_
  refine s_icmp_ge (tgt := 38) hC dX5_sumOfCosts_7 (by decide) hx2 (inR_c _ rfl) ?_ ?_
  · refine s_sub (L' := [(1, vI x1)]) [1] rfl ?_
    refine s_iload_n hC dX5_sumOfCosts_38 rfl 0 rfl ?_
    exact s_iret hC hr dX5_sumOfCosts_39 (fun H hH => ⟨rfl, hx1, hσ3, hH⟩)
  · refine s_iload_n hC dX5_sumOfCosts_10 rfl 1 rfl ?_
    refine s_aload_n hC dX5_sumOfCosts_11 rfl 0 rfl ?_
    refine s_iload_n hC dX5_sumOfCosts_12 rfl 2 rfl ?_
    refine s_iconst hC dX5_sumOfCosts_13 ?_
    refine s_callV_P (As := [vI x2, vI 0]) (rest := [vI x1]) (a := b + 0) hC hKA 2 (m_X5_part (hJ.1 σ3) hσ3 hx2 (inR_c _ rfl)) rfl (cb_of hC 2 q_c_yX5_part q_i_X5 q_m_X5_61 rfl rfl dd_yX5_part ⟨Nat.le_of_ble_eq_true rfl, Nat.le_of_ble_eq_true rfl⟩) q_i_yX5_part q_x_yX5_part (s_recv hK (hJ.1 σ3) (by decide) o_Model rfl) rfl (Nat.le_of_ble_eq_true rfl) dX5_sumOfCosts_14 ⟨Nat.zero_le _, Nat.zero_le _⟩ (fun r4 hr4 => ?_)
    refine s_iconst hC dX5_sumOfCosts_17 ?_
    refine s_jp_IB (J := J) 30 (fun x6 => [(0, .ref (b + 0)), (2, vI x2)]) (fun x6 => [vI x6, vI x1]) (fun x6 σ7 hx6 hσ7 => ?_) (fun j5 hj5 => ?_)
    · refine s_iadd hC dX5_sumOfCosts_30 ?_
      refine s_ck0 (fun v8 hv8 => ?_)
      refine s_istore_n (L' := [(1, vI v8), (0, .ref (b + 0)), (2, vI x2)]) hC dX5_sumOfCosts_31 rfl (by decide) rfl ?_
      refine s_iincK hC dX5_sumOfCosts_32 2 rfl (by decide) (fun v9 => [(2, vI v9), (1, vI v8), (0, .ref (b + 0))]) (fun _ => rfl) (fun v9 hv9 => ?_)
      refine s_goto (tgt := 4) hC dX5_sumOfCosts_35 (by decide) ?_
      refine s_sub (L' := [(0, .ref (b + 0)), (1, vI v8), (2, vI v9)]) [2, 1, 0] rfl ?_
      exact ih4 v8 v9 σ7 hv8 hv9 hσ7
    · refine s_icmp_ne (tgt := 29) hC dX5_sumOfCosts_18 (by decide) hr4 (inR_c _ rfl) ?_ ?_
      · refine s_sub (L' := [(0, .ref (b + 0)), (2, vI x2)]) [0, 2] rfl ?_
        refine s_iconst hC dX5_sumOfCosts_29 ?_
        exact hj5 0 σ3 (inR_c _ rfl) hσ3
      · refine s_sub (L' := [(0, .ref (b + 0)), (2, vI x2)]) [0, 2] rfl ?_
        refine s_aload_n hC dX5_sumOfCosts_21 rfl 0 rfl ?_
        refine s_iload_n hC dX5_sumOfCosts_22 rfl 1 rfl ?_
        refine s_callV_W (As := [vI x2]) (rest := [vI x1]) (a := b + 0) hC hKA 1 (m_X5_costOf hJ hσ3 hx2) (fun _ h => h) rfl (cb_of hC 1 q_c_yX5_costOf q_i_X5 q_m_X5_170 rfl rfl dd_yX5_costOf ⟨Nat.le_of_ble_eq_true rfl, Nat.le_of_ble_eq_true rfl⟩) q_i_yX5_costOf q_x_yX5_costOf (s_recv hK (hJ.1 σ3) (by decide) o_Model rfl) rfl (Nat.le_of_ble_eq_true rfl) dX5_sumOfCosts_23 ⟨Nat.zero_le _, Nat.zero_le _⟩ (fun r10 σ11 hr10 hσ11 => ?_)
        refine s_goto (tgt := 30) hC dX5_sumOfCosts_26 (by decide) ?_
        exact hj5 r10 σ11 hr10 hσ11
set_option maxHeartbeats 4000000 in
set_option maxRecDepth 100000 in
theorem m_X5_greatestCost {l : Launch} {G : Gt} {b : Nat} {σ : Blk} {J : Blk → Heap → Prop} (hJ : Wd G (layModel G b) 10 b J) (hσ : Rg σ)  : MetS l yX5_greatestCost cX5_greatestCost 3 (some .int) { frames := 3, cells := 0, slots := 0, locals := 68 } G [.ref (b + 0)] (J σ) (poW J) (Ab b 10) 0 0 (f_X5_greatestCost σ) := by
  refine met_of (by decide) (Nat.le_of_ble_eq_true rfl) ?_
  intro p e s m below meth c hC hKA hr _
  have hK := hKA.1
  unfold f_X5_greatestCost
  refine s_sub (L' := [(0, .ref (b + 0))]) [0] rfl ?_
  refine s_bipush hC dX5_greatestCost_0 (by decide) ?_
  refine s_istore_n (L' := [(1, vI ((-6))), (0, .ref (b + 0))]) hC dX5_greatestCost_2 rfl (by decide) rfl ?_
  refine s_iconst hC dX5_greatestCost_3 ?_
  refine s_istore_n (L' := [(2, vI 0), (1, vI ((-6))), (0, .ref (b + 0))]) hC dX5_greatestCost_4 rfl (by decide) rfl ?_
  refine s_sub (L' := [(0, .ref (b + 0)), (1, vI ((-6))), (2, vI 0)]) [2, 1, 0] rfl ?_
  refine s_lp_IIB (J := J) (F := f_X5_greatestCost_L5) 5 (fun x1 x2 => [(0, .ref (b + 0)), (1, vI x1), (2, vI x2)]) (fun _ _ _ => rfl) (fun n ih5 x1 x2 σ3 hx1 hx2 hσ3 => ?_) fu ((-6)) 0 σ (inR_c _ rfl) (inR_c _ rfl) hσ
  rw [f_X5_greatestCost_L5]
  refine s_iload_n hC dX5_greatestCost_5 rfl 2 rfl ?_
  refine s_bipush hC dX5_greatestCost_6 (by decide) ?_
  refine s_icmp_ge (tgt := 46) hC dX5_greatestCost_8 (by decide) hx2 (inR_c _ rfl) ?_ ?_
  · refine s_sub (L' := [(1, vI x1)]) [1] rfl ?_
    refine s_iload_n hC dX5_greatestCost_46 rfl 0 rfl ?_
    exact s_iret hC hr dX5_greatestCost_47 (fun H hH => ⟨rfl, hx1, hσ3, hH⟩)
  · refine s_aload_n hC dX5_greatestCost_11 rfl 0 rfl ?_
    refine s_iload_n hC dX5_greatestCost_12 rfl 2 rfl ?_
    refine s_iconst hC dX5_greatestCost_13 ?_
    refine s_callV_P (As := [vI x2, vI 0]) (rest := []) (a := b + 0) hC hKA 2 (m_X5_part (hJ.1 σ3) hσ3 hx2 (inR_c _ rfl)) rfl (cb_of hC 2 q_c_yX5_part q_i_X5 q_m_X5_61 rfl rfl dd_yX5_part ⟨Nat.le_of_ble_eq_true rfl, Nat.le_of_ble_eq_true rfl⟩) q_i_yX5_part q_x_yX5_part (s_recv hK (hJ.1 σ3) (by decide) o_Model rfl) rfl (Nat.le_of_ble_eq_true rfl) dX5_greatestCost_14 ⟨Nat.zero_le _, Nat.zero_le _⟩ (fun r4 hr4 => ?_)
    refine s_iconst hC dX5_greatestCost_17 ?_
    refine s_jp_IB (J := J) 39 (fun x6 => [(0, .ref (b + 0)), (2, vI x2)]) (fun x6 => [vI x6]) (fun x6 σ7 hx6 hσ7 => ?_) (fun j5 hj5 => ?_)
    · refine s_istore_n (L' := [(1, vI x6), (0, .ref (b + 0)), (2, vI x2)]) hC dX5_greatestCost_39 rfl (by decide) rfl ?_
      refine s_iincK hC dX5_greatestCost_40 2 rfl (by decide) (fun v8 => [(2, vI v8), (1, vI x6), (0, .ref (b + 0))]) (fun _ => rfl) (fun v8 hv8 => ?_)
      refine s_goto (tgt := 5) hC dX5_greatestCost_43 (by decide) ?_
      refine s_sub (L' := [(0, .ref (b + 0)), (1, vI x6), (2, vI v8)]) [2, 1, 0] rfl ?_
      exact ih5 x6 v8 σ7 hx6 hv8 hσ7
    · refine s_icmp_ne (tgt := 38) hC dX5_greatestCost_18 (by decide) hr4 (inR_c _ rfl) ?_ ?_
      · refine s_iload_n hC dX5_greatestCost_38 rfl 1 rfl ?_
        refine s_sub (L' := [(0, .ref (b + 0)), (2, vI x2)]) [0, 2] rfl ?_
        exact hj5 x1 σ3 hx1 hσ3
      · refine s_aload_n hC dX5_greatestCost_21 rfl 0 rfl ?_
        refine s_iload_n hC dX5_greatestCost_22 rfl 2 rfl ?_
        refine s_callV_W (As := [vI x2]) (rest := []) (a := b + 0) hC hKA 1 (m_X5_costOf hJ hσ3 hx2) (fun _ h => h) rfl (cb_of hC 1 q_c_yX5_costOf q_i_X5 q_m_X5_170 rfl rfl dd_yX5_costOf ⟨Nat.le_of_ble_eq_true rfl, Nat.le_of_ble_eq_true rfl⟩) q_i_yX5_costOf q_x_yX5_costOf (s_recv hK (hJ.1 σ3) (by decide) o_Model rfl) rfl (Nat.le_of_ble_eq_true rfl) dX5_greatestCost_23 ⟨Nat.zero_le _, Nat.zero_le _⟩ (fun r9 σ10 hr9 hσ10 => ?_)
        refine s_iload_n hC dX5_greatestCost_26 rfl 1 rfl ?_
        refine s_icmp_le (tgt := 38) hC dX5_greatestCost_27 (by decide) hr9 hx1 ?_ ?_
        · refine s_iload_n hC dX5_greatestCost_38 rfl 1 rfl ?_
          refine s_sub (L' := [(0, .ref (b + 0)), (2, vI x2)]) [0, 2] rfl ?_
          exact hj5 x1 σ10 hx1 hσ10
        · refine s_sub (L' := [(0, .ref (b + 0)), (2, vI x2)]) [0, 2] rfl ?_
          refine s_aload_n hC dX5_greatestCost_30 rfl 0 rfl ?_
          refine s_iload_n hC dX5_greatestCost_31 rfl 1 rfl ?_
          refine s_callV_W (As := [vI x2]) (rest := []) (a := b + 0) hC hKA 1 (m_X5_costOf hJ hσ10 hx2) (fun _ h => h) rfl (cb_of hC 1 q_c_yX5_costOf q_i_X5 q_m_X5_170 rfl rfl dd_yX5_costOf ⟨Nat.le_of_ble_eq_true rfl, Nat.le_of_ble_eq_true rfl⟩) q_i_yX5_costOf q_x_yX5_costOf (s_recv hK (hJ.1 σ10) (by decide) o_Model rfl) rfl (Nat.le_of_ble_eq_true rfl) dX5_greatestCost_32 ⟨Nat.zero_le _, Nat.zero_le _⟩ (fun r11 σ12 hr11 hσ12 => ?_)
          refine s_goto (tgt := 39) hC dX5_greatestCost_35 (by decide) ?_
          exact hj5 r11 σ12 hr11 hσ12
set_option maxHeartbeats 4000000 in
set_option maxRecDepth 100000 in
theorem m_X5_allLetters {l : Launch} {G : Gt} {b : Nat} {σ : Blk} {I : Heap → Prop} (hI : ∀ H, I H → Bk G (layModel G b) 10 b σ H) (hσ : Rg σ)  : MetS l yX5_allLetters cX5_allLetters 3 (some .int) { frames := 1, cells := 0, slots := 0, locals := 22 } G [.ref (b + 0)] I (poP I) (fun _ => False) 0 0 (f_X5_allLetters σ) := by
  refine met_of (by decide) (Nat.le_of_ble_eq_true rfl) ?_
  intro p e s m below meth c hC hKA hr _
  have hK := hKA.1
  unfold f_X5_allLetters
  refine s_sub (L' := [(0, .ref (b + 0))]) [0] rfl ?_
  refine s_iconst hC dX5_allLetters_0 ?_
  refine s_istore_n (L' := [(1, vI 0), (0, .ref (b + 0))]) hC dX5_allLetters_1 rfl (by decide) rfl ?_
  refine s_iconst hC dX5_allLetters_2 ?_
  refine s_istore_n (L' := [(2, vI 0), (1, vI 0), (0, .ref (b + 0))]) hC dX5_allLetters_3 rfl (by decide) rfl ?_
  refine s_sub (L' := [(0, .ref (b + 0)), (1, vI 0), (2, vI 0)]) [2, 1, 0] rfl ?_
  refine s_lp_II (F := f_X5_allLetters_L4 σ) 4 (fun x1 x2 => [(0, .ref (b + 0)), (1, vI x1), (2, vI x2)]) (fun _ _ => rfl) (fun n ih4 x1 x2 hx1 hx2 => ?_) fu 0 0 (inR_c _ rfl) (inR_c _ rfl)
  rw [f_X5_allLetters_L4]
  refine s_iload_n hC dX5_allLetters_4 rfl 2 rfl ?_
  refine s_bipush hC dX5_allLetters_5 (by decide) ?_
  refine s_icmp_ge (tgt := 25) hC dX5_allLetters_7 (by decide) hx2 (inR_c _ rfl) ?_ ?_
  · refine s_sub (L' := [(1, vI x1)]) [1] rfl ?_
    refine s_iload_n hC dX5_allLetters_25 rfl 0 rfl ?_
    exact s_iret hC hr dX5_allLetters_26 (fun H hH => ⟨rfl, hx1, hH⟩)
  · refine s_iload_n hC dX5_allLetters_10 rfl 1 rfl ?_
    refine s_aload_n hC dX5_allLetters_11 rfl 0 rfl ?_
    refine s_iload_n hC dX5_allLetters_12 rfl 2 rfl ?_
    refine s_iconst hC dX5_allLetters_13 ?_
    refine s_callV_P (As := [vI x2, vI 2]) (rest := [vI x1]) (a := b + 0) hC hKA 2 (m_X5_part hI hσ hx2 (inR_c _ rfl)) rfl (cb_of hC 2 q_c_yX5_part q_i_X5 q_m_X5_61 rfl rfl dd_yX5_part ⟨Nat.le_of_ble_eq_true rfl, Nat.le_of_ble_eq_true rfl⟩) q_i_yX5_part q_x_yX5_part (s_recv hK hI (by decide) o_Model rfl) rfl (Nat.le_of_ble_eq_true rfl) dX5_allLetters_14 ⟨Nat.zero_le _, Nat.zero_le _⟩ (fun r3 hr3 => ?_)
    refine s_iadd hC dX5_allLetters_17 ?_
    refine s_ck0 (fun v4 hv4 => ?_)
    refine s_istore_n (L' := [(1, vI v4), (0, .ref (b + 0)), (2, vI x2)]) hC dX5_allLetters_18 rfl (by decide) rfl ?_
    refine s_iincK hC dX5_allLetters_19 2 rfl (by decide) (fun v5 => [(2, vI v5), (1, vI v4), (0, .ref (b + 0))]) (fun _ => rfl) (fun v5 hv5 => ?_)
    refine s_goto (tgt := 4) hC dX5_allLetters_22 (by decide) ?_
    refine s_sub (L' := [(0, .ref (b + 0)), (1, vI v4), (2, vI v5)]) [2, 1, 0] rfl ?_
    exact ih4 v4 v5 hv4 hv5
set_option maxHeartbeats 4000000 in
set_option maxRecDepth 100000 in
theorem m_X5_count {l : Launch} {G : Gt} {b : Nat} {σ : Blk} {J : Blk → Heap → Prop} (hJ : Wd G (layModel G b) 10 b J) (hσ : Rg σ) {a1 : Int} (h1 : inR a1) : MetS l yX5_count cX5_count 2 (some .int) { frames := 4, cells := 0, slots := 0, locals := 90 } G [.ref (b + 0), vI a1] (J σ) (poW J) (Ab b 10) 0 0 (f_X5_count σ a1) := by
  refine met_of (by decide) (Nat.le_of_ble_eq_true rfl) ?_
  intro p e s m below meth c hC hKA hr _
  have hK := hKA.1
  unfold f_X5_count
  refine s_sub (L' := [(0, .ref (b + 0)), (1, vI a1)]) [0, 1] rfl ?_
  refine s_iload_n hC dX5_count_0 rfl 1 rfl ?_
  refine s_ite (fun hz => ?_) (fun hz0 => ?_)
  · refine s_tabIn (tgt := 64) hC 0 dX5_count_1 h1 hz (by decide) (by decide) rfl (by decide) ?_
    refine s_sub (L' := [(0, .ref (b + 0))]) [0] rfl ?_
    refine s_aload_n hC dX5_count_64 rfl 0 rfl ?_
    refine s_get (b := b) hC hK (hJ.1 σ) (by decide) o_Model rfl q_w_X5 0 (by decide) q_f_X5_7 rfl dX5_count_65 ?_
    refine s_iconst hC dX5_count_68 ?_
    refine s_iaload hC hK (hJ.1 σ) hσ (by decide) a_Model_1 dX5_count_69 (fun v1 hv1 => ?_)
    exact s_iret hC hr dX5_count_70 (fun H hH => ⟨rfl, hv1, hσ, hH⟩)
  · refine s_ite (fun hz => ?_) (fun hz1 => ?_)
    · refine s_tabIn (tgt := 71) hC 1 dX5_count_1 h1 hz (by decide) (by decide) rfl (by decide) ?_
      refine s_sub (L' := [(0, .ref (b + 0))]) [0] rfl ?_
      refine s_aload_n hC dX5_count_71 rfl 0 rfl ?_
      refine s_callV_P (As := []) (rest := []) (a := b + 0) hC hKA 0 (m_X5_pagesWith (hJ.1 σ) hσ) rfl (cb_of hC 0 q_c_yX5_pagesWith q_i_X5 q_m_X5_167 rfl rfl dd_yX5_pagesWith ⟨Nat.le_of_ble_eq_true rfl, Nat.le_of_ble_eq_true rfl⟩) q_i_yX5_pagesWith q_x_yX5_pagesWith (s_recv hK (hJ.1 σ) (by decide) o_Model rfl) rfl (Nat.le_of_ble_eq_true rfl) dX5_count_72 ⟨Nat.zero_le _, Nat.zero_le _⟩ (fun r2 hr2 => ?_)
      exact s_iret hC hr dX5_count_75 (fun H hH => ⟨rfl, hr2, hσ, hH⟩)
    · refine s_ite (fun hz => ?_) (fun hz2 => ?_)
      · refine s_tabIn (tgt := 76) hC 2 dX5_count_1 h1 hz (by decide) (by decide) rfl (by decide) ?_
        refine s_sub (L' := [(0, .ref (b + 0))]) [0] rfl ?_
        refine s_aload_n hC dX5_count_76 rfl 0 rfl ?_
        refine s_iconst hC dX5_count_77 ?_
        refine s_callV_P (As := [vI 3]) (rest := []) (a := b + 0) hC hKA 1 (m_X5_thingsOf (hJ.1 σ) hσ (inR_c _ rfl)) rfl (cb_of hC 1 q_c_yX5_thingsOf q_i_X5 q_m_X5_176 rfl rfl dd_yX5_thingsOf ⟨Nat.le_of_ble_eq_true rfl, Nat.le_of_ble_eq_true rfl⟩) q_i_yX5_thingsOf q_x_yX5_thingsOf (s_recv hK (hJ.1 σ) (by decide) o_Model rfl) rfl (Nat.le_of_ble_eq_true rfl) dX5_count_78 ⟨Nat.zero_le _, Nat.zero_le _⟩ (fun r3 hr3 => ?_)
        exact s_iret hC hr dX5_count_81 (fun H hH => ⟨rfl, hr3, hσ, hH⟩)
      · refine s_ite (fun hz => ?_) (fun hz3 => ?_)
        · refine s_tabIn (tgt := 82) hC 3 dX5_count_1 h1 hz (by decide) (by decide) rfl (by decide) ?_
          refine s_sub (L' := [(0, .ref (b + 0))]) [0] rfl ?_
          refine s_aload_n hC dX5_count_82 rfl 0 rfl ?_
          refine s_iconst hC dX5_count_83 ?_
          refine s_callV_P (As := [vI 2]) (rest := []) (a := b + 0) hC hKA 1 (m_X5_thingsOf (hJ.1 σ) hσ (inR_c _ rfl)) rfl (cb_of hC 1 q_c_yX5_thingsOf q_i_X5 q_m_X5_176 rfl rfl dd_yX5_thingsOf ⟨Nat.le_of_ble_eq_true rfl, Nat.le_of_ble_eq_true rfl⟩) q_i_yX5_thingsOf q_x_yX5_thingsOf (s_recv hK (hJ.1 σ) (by decide) o_Model rfl) rfl (Nat.le_of_ble_eq_true rfl) dX5_count_84 ⟨Nat.zero_le _, Nat.zero_le _⟩ (fun r4 hr4 => ?_)
          exact s_iret hC hr dX5_count_87 (fun H hH => ⟨rfl, hr4, hσ, hH⟩)
        · refine s_ite (fun hz => ?_) (fun hz4 => ?_)
          · refine s_tabIn (tgt := 88) hC 4 dX5_count_1 h1 hz (by decide) (by decide) rfl (by decide) ?_
            refine s_sub (L' := [(0, .ref (b + 0))]) [0] rfl ?_
            refine s_aload_n hC dX5_count_88 rfl 0 rfl ?_
            refine s_callV_P (As := []) (rest := []) (a := b + 0) hC hKA 0 (m_X5_allFree (hJ.1 σ) hσ) rfl (cb_of hC 0 q_c_yX5_allFree q_i_X5 q_m_X5_179 rfl rfl dd_yX5_allFree ⟨Nat.le_of_ble_eq_true rfl, Nat.le_of_ble_eq_true rfl⟩) q_i_yX5_allFree q_x_yX5_allFree (s_recv hK (hJ.1 σ) (by decide) o_Model rfl) rfl (Nat.le_of_ble_eq_true rfl) dX5_count_89 ⟨Nat.zero_le _, Nat.zero_le _⟩ (fun r5 hr5 => ?_)
            exact s_iret hC hr dX5_count_92 (fun H hH => ⟨rfl, hr5, hσ, hH⟩)
          · refine s_ite (fun hz => ?_) (fun hz5 => ?_)
            · refine s_tabIn (tgt := 93) hC 5 dX5_count_1 h1 hz (by decide) (by decide) rfl (by decide) ?_
              refine s_sub (L' := [(0, .ref (b + 0))]) [0] rfl ?_
              refine s_aload_n hC dX5_count_93 rfl 0 rfl ?_
              refine s_callV_W (As := []) (rest := []) (a := b + 0) hC hKA 0 (m_X5_sumOfCosts hJ hσ) (fun _ h => h) rfl (cb_of hC 0 q_c_yX5_sumOfCosts q_i_X5 q_m_X5_182 rfl rfl dd_yX5_sumOfCosts ⟨Nat.le_of_ble_eq_true rfl, Nat.le_of_ble_eq_true rfl⟩) q_i_yX5_sumOfCosts q_x_yX5_sumOfCosts (s_recv hK (hJ.1 σ) (by decide) o_Model rfl) rfl (Nat.le_of_ble_eq_true rfl) dX5_count_94 ⟨Nat.zero_le _, Nat.zero_le _⟩ (fun r6 σ7 hr6 hσ7 => ?_)
              exact s_iret hC hr dX5_count_97 (fun H hH => ⟨rfl, hr6, hσ7, hH⟩)
            · refine s_ite (fun hz => ?_) (fun hz6 => ?_)
              · refine s_tabIn (tgt := 98) hC 6 dX5_count_1 h1 hz (by decide) (by decide) rfl (by decide) ?_
                refine s_sub (L' := [(0, .ref (b + 0))]) [0] rfl ?_
                refine s_aload_n hC dX5_count_98 rfl 0 rfl ?_
                refine s_callV_P (As := []) (rest := []) (a := b + 0) hC hKA 0 (m_X5_allLetters (hJ.1 σ) hσ) rfl (cb_of hC 0 q_c_yX5_allLetters q_i_X5 q_m_X5_185 rfl rfl dd_yX5_allLetters ⟨Nat.le_of_ble_eq_true rfl, Nat.le_of_ble_eq_true rfl⟩) q_i_yX5_allLetters q_x_yX5_allLetters (s_recv hK (hJ.1 σ) (by decide) o_Model rfl) rfl (Nat.le_of_ble_eq_true rfl) dX5_count_99 ⟨Nat.zero_le _, Nat.zero_le _⟩ (fun r8 hr8 => ?_)
                exact s_iret hC hr dX5_count_102 (fun H hH => ⟨rfl, hr8, hσ, hH⟩)
              · refine s_ite (fun hz => ?_) (fun hz7 => ?_)
                · refine s_tabIn (tgt := 103) hC 7 dX5_count_1 h1 hz (by decide) (by decide) rfl (by decide) ?_
                  refine s_sub (L' := [(0, .ref (b + 0))]) [0] rfl ?_
                  refine s_aload_n hC dX5_count_103 rfl 0 rfl ?_
                  refine s_callV_W (As := []) (rest := []) (a := b + 0) hC hKA 0 (m_X5_greatestCost hJ hσ) (fun _ h => h) rfl (cb_of hC 0 q_c_yX5_greatestCost q_i_X5 q_m_X5_188 rfl rfl dd_yX5_greatestCost ⟨Nat.le_of_ble_eq_true rfl, Nat.le_of_ble_eq_true rfl⟩) q_i_yX5_greatestCost q_x_yX5_greatestCost (s_recv hK (hJ.1 σ) (by decide) o_Model rfl) rfl (Nat.le_of_ble_eq_true rfl) dX5_count_104 ⟨Nat.zero_le _, Nat.zero_le _⟩ (fun r9 σ10 hr9 hσ10 => ?_)
                  exact s_iret hC hr dX5_count_107 (fun H hH => ⟨rfl, hr9, hσ10, hH⟩)
                · refine s_ite (fun hz => ?_) (fun hz8 => ?_)
                  · refine s_tabIn (tgt := 108) hC 8 dX5_count_1 h1 hz (by decide) (by decide) rfl (by decide) ?_
                    refine s_aload_n hC dX5_count_108 rfl 0 rfl ?_
                    refine s_get (b := b) hC hK (hJ.1 σ) (by decide) o_Model rfl q_w_X5 0 (by decide) q_f_X5_7 rfl dX5_count_109 ?_
                    refine s_iload_n hC dX5_count_112 rfl 1 rfl ?_
                    refine s_bipush hC dX5_count_113 (by decide) ?_
                    refine s_isub hC dX5_count_115 ?_
                    refine s_iaload hC hK (hJ.1 σ) hσ (by decide) a_Model_1 dX5_count_116 (fun v11 hv11 => ?_)
                    exact s_iret hC hr dX5_count_117 (fun H hH => ⟨rfl, hv11, hσ, hH⟩)
                  · refine s_ite (fun hz => ?_) (fun hz9 => ?_)
                    · refine s_tabIn (tgt := 108) hC 9 dX5_count_1 h1 hz (by decide) (by decide) rfl (by decide) ?_
                      refine s_aload_n hC dX5_count_108 rfl 0 rfl ?_
                      refine s_get (b := b) hC hK (hJ.1 σ) (by decide) o_Model rfl q_w_X5 0 (by decide) q_f_X5_7 rfl dX5_count_109 ?_
                      refine s_iload_n hC dX5_count_112 rfl 1 rfl ?_
                      refine s_bipush hC dX5_count_113 (by decide) ?_
                      refine s_isub hC dX5_count_115 ?_
                      refine s_iaload hC hK (hJ.1 σ) hσ (by decide) a_Model_1 dX5_count_116 (fun v12 hv12 => ?_)
                      exact s_iret hC hr dX5_count_117 (fun H hH => ⟨rfl, hv12, hσ, hH⟩)
                    · refine s_ite (fun hz => ?_) (fun hz10 => ?_)
                      · refine s_tabIn (tgt := 118) hC 10 dX5_count_1 h1 hz (by decide) (by decide) rfl (by decide) ?_
                        refine s_sub (L' := [(0, .ref (b + 0))]) [0] rfl ?_
                        refine s_aload_n hC dX5_count_118 rfl 0 rfl ?_
                        refine s_get (b := b) hC hK (hJ.1 σ) (by decide) o_Model rfl q_w_X5 8 (by decide) q_f_X5_145 rfl dX5_count_119 ?_
                        exact s_iret hC hr dX5_count_122 (fun H hH => ⟨rfl, (hσ 0 8), hσ, hH⟩)
                      · refine s_ite (fun hz => ?_) (fun hz11 => ?_)
                        · refine s_tabIn (tgt := 123) hC 11 dX5_count_1 h1 hz (by decide) (by decide) rfl (by decide) ?_
                          refine s_sub (L' := [(0, .ref (b + 0))]) [0] rfl ?_
                          refine s_aload_n hC dX5_count_123 rfl 0 rfl ?_
                          refine s_get (b := b) hC hK (hJ.1 σ) (by decide) o_Model rfl q_w_X5 4 (by decide) q_f_X5_37 rfl dX5_count_124 ?_
                          exact s_iret hC hr dX5_count_127 (fun H hH => ⟨rfl, (hσ 0 4), hσ, hH⟩)
                        · refine s_tabOut (tgt := 128) hC dX5_count_1 h1 (by omega) (by decide) ?_
                          refine s_sub (L' := []) [] rfl ?_
                          refine s_bipush hC dX5_count_128 (by decide) ?_
                          exact s_iret hC hr dX5_count_130 (fun H hH => ⟨rfl, (inR_c _ rfl), hσ, hH⟩)
set_option maxHeartbeats 4000000 in
set_option maxRecDepth 100000 in
theorem m_X5_key {l : Launch} {G : Gt} {b : Nat} {σ : Blk} {I : Heap → Prop} (hI : ∀ H, I H → Bk G (layModel G b) 10 b σ H) (hσ : Rg σ) {a1 : Int} (h1 : inR a1) : MetS l yX5_key cX5_key 2 (some .int) { frames := 3, cells := 0, slots := 0, locals := 68 } G [.ref (b + 0), vI a1] I (poP I) (fun _ => False) 0 0 (f_X5_key σ a1) := by
  refine met_of (by decide) (Nat.le_of_ble_eq_true rfl) ?_
  intro p e s m below meth c hC hKA hr _
  have hK := hKA.1
  unfold f_X5_key
  refine s_sub (L' := [(0, .ref (b + 0)), (1, vI a1)]) [0, 1] rfl ?_
  refine s_iload_n hC dX5_key_0 rfl 1 rfl ?_
  refine s_iconst hC dX5_key_1 ?_
  refine s_aload_n hC dX5_key_2 rfl 0 rfl ?_
  refine s_get (b := b) hC hK hI (by decide) o_Model rfl q_w_X5 0 (by decide) q_f_X5_7 rfl dX5_key_3 ?_
  refine s_iconst hC dX5_key_6 ?_
  refine s_iaload hC hK hI hσ (by decide) a_Model_1 dX5_key_7 (fun v1 hv1 => ?_)
  refine s_iconst hC dX5_key_8 ?_
  refine s_isub hC dX5_key_9 ?_
  refine s_ck0 (fun v2 hv2 => ?_)
  refine s_callS_P (As := [vI a1, vI 0, vI v2]) (rest := []) hC hKA 3 (m_X5_within (I := I) h1 (inR_c _ rfl) hv2) rfl (cb_of hC 3 q_c_yX5_within q_i_X5 q_m_X5_130 rfl rfl dd_yX5_within ⟨Nat.le_of_ble_eq_true rfl, Nat.le_of_ble_eq_true rfl⟩) q_s_yX5_within rfl (Nat.le_of_ble_eq_true rfl) dX5_key_10 ⟨Nat.zero_le _, Nat.zero_le _⟩ (fun r3 hr3 => ?_)
  refine s_if_eq (tgt := 24) hC dX5_key_13 (by decide) hr3 ?_ ?_
  · refine s_sub (L' := []) [] rfl ?_
    refine s_iconst hC dX5_key_24 ?_
    exact s_iret hC hr dX5_key_25 (fun H hH => ⟨rfl, (inR_c _ rfl), hH⟩)
  · refine s_aload_n hC dX5_key_16 rfl 0 rfl ?_
    refine s_iload_n hC dX5_key_17 rfl 1 rfl ?_
    refine s_callV_P (As := [vI a1]) (rest := []) (a := b + 0) hC hKA 1 (m_X5_keyAt hI hσ h1) rfl (cb_of hC 1 q_c_yX5_keyAt q_i_X5 q_m_X5_157 rfl rfl dd_yX5_keyAt ⟨Nat.le_of_ble_eq_true rfl, Nat.le_of_ble_eq_true rfl⟩) q_i_yX5_keyAt q_x_yX5_keyAt (s_recv hK hI (by decide) o_Model rfl) rfl (Nat.le_of_ble_eq_true rfl) dX5_key_18 ⟨Nat.zero_le _, Nat.zero_le _⟩ (fun r4 hr4 => ?_)
    refine s_goto (tgt := 25) hC dX5_key_21 (by decide) ?_
    refine s_sub (L' := []) [] rfl ?_
    exact s_iret hC hr dX5_key_25 (fun H hH => ⟨rfl, hr4, hH⟩)
set_option maxHeartbeats 4000000 in
set_option maxRecDepth 100000 in
theorem m_X5_packedWith {l : Launch} {G : Gt} {b : Nat} {σ : Blk} {J : Blk → Heap → Prop} (hJ : Wd G (layModel G b) 10 b J) (hσ : Rg σ) {a1 : Int} (h1 : inR a1) {a2 : Int} (h2 : inR a2) : MetS l yX5_packedWith cX5_packedWith 4 (some .int) { frames := 7, cells := 0, slots := 0, locals := 155 } G [.ref (b + 0), vI a1, vI a2] (J σ) (poW J) (Ab b 10) 0 0 (f_X5_packedWith σ a1 a2) := by
  refine met_of (by decide) (Nat.le_of_ble_eq_true rfl) ?_
  intro p e s m below meth c hC hKA hr _
  have hK := hKA.1
  unfold f_X5_packedWith
  refine s_sub (L' := [(0, .ref (b + 0)), (1, vI a1), (2, vI a2)]) [0, 1, 2] rfl ?_
  refine s_aload_n hC dX5_packedWith_0 rfl 0 rfl ?_
  refine s_get (b := b) hC hK (hJ.1 σ) (by decide) o_Model rfl q_w_X5 0 (by decide) q_f_X5_7 rfl dX5_packedWith_1 ?_
  refine s_iconst hC dX5_packedWith_4 ?_
  refine s_aload_n hC dX5_packedWith_5 rfl 0 rfl ?_
  refine s_get (b := b) hC hK (hJ.1 σ) (by decide) o_Model rfl q_w_X5 1 (by decide) q_f_X5_13 rfl dX5_packedWith_6 ?_
  refine s_iconst hC dX5_packedWith_9 ?_
  refine s_callS_U (As := [.ref (b + 1), vI 0, .ref (b + 2), vI 0]) (rest := []) hC hKA 4 (m_X5_moves hJ hσ (by decide) a_Model_1 (inR_c _ rfl) (by decide) a_Model_2 (inR_c _ rfl)) (fun _ h => h) rfl (cb_of hC 4 q_c_yX5_moves q_i_X5 q_m_X5_41 rfl rfl dd_yX5_moves ⟨Nat.le_of_ble_eq_true rfl, Nat.le_of_ble_eq_true rfl⟩) q_s_yX5_moves rfl (Nat.le_of_ble_eq_true rfl) dX5_packedWith_10 ⟨Nat.zero_le _, Nat.zero_le _⟩ (fun σ1 hσ1 => ?_)
  refine s_aload_n hC dX5_packedWith_13 rfl 0 rfl ?_
  refine s_get (b := b) hC hK (hJ.1 σ1) (by decide) o_Model rfl q_w_X5 0 (by decide) q_f_X5_7 rfl dX5_packedWith_14 ?_
  refine s_iconst hC dX5_packedWith_17 ?_
  refine s_iload_n hC dX5_packedWith_18 rfl 1 rfl ?_
  refine s_iastore hC hK hJ (fun _ h => h) hσ1 h1 (by decide) a_Model_1 dX5_packedWith_19 (fun σ2 hσ2 => ?_)
  refine s_aload_n hC dX5_packedWith_20 rfl 0 rfl ?_
  refine s_callV_W (As := []) (rest := []) (a := b + 0) hC hKA 0 (m_X5_packs hJ hσ2) (fun _ h => h) rfl (cb_of hC 0 q_c_yX5_packs q_i_X5 q_m_X5_163 rfl rfl dd_yX5_packs ⟨Nat.le_of_ble_eq_true rfl, Nat.le_of_ble_eq_true rfl⟩) q_i_yX5_packs q_x_yX5_packs (s_recv hK (hJ.1 σ2) (by decide) o_Model rfl) rfl (Nat.le_of_ble_eq_true rfl) dX5_packedWith_21 ⟨Nat.zero_le _, Nat.zero_le _⟩ (fun r3 σ4 hr3 hσ4 => ?_)
  refine s_jp_IB (J := J) 60 (fun x6 => [(0, .ref (b + 0))]) (fun x6 => [vI x6]) (fun x6 σ7 hx6 hσ7 => ?_) (fun j5 hj5 => ?_)
  · refine s_istore_n (L' := [(3, vI x6), (0, .ref (b + 0))]) hC dX5_packedWith_60 rfl (by decide) rfl ?_
    refine s_aload_n hC dX5_packedWith_61 rfl 1 rfl ?_
    refine s_get (b := b) hC hK (hJ.1 σ7) (by decide) o_Model rfl q_w_X5 1 (by decide) q_f_X5_13 rfl dX5_packedWith_62 ?_
    refine s_iconst hC dX5_packedWith_65 ?_
    refine s_aload_n hC dX5_packedWith_66 rfl 1 rfl ?_
    refine s_get (b := b) hC hK (hJ.1 σ7) (by decide) o_Model rfl q_w_X5 0 (by decide) q_f_X5_7 rfl dX5_packedWith_67 ?_
    refine s_iconst hC dX5_packedWith_70 ?_
    refine s_callS_U (As := [.ref (b + 2), vI 0, .ref (b + 1), vI 0]) (rest := []) hC hKA 4 (m_X5_moves hJ hσ7 (by decide) a_Model_2 (inR_c _ rfl) (by decide) a_Model_1 (inR_c _ rfl)) (fun _ h => h) rfl (cb_of hC 4 q_c_yX5_moves q_i_X5 q_m_X5_41 rfl rfl dd_yX5_moves ⟨Nat.le_of_ble_eq_true rfl, Nat.le_of_ble_eq_true rfl⟩) q_s_yX5_moves rfl (Nat.le_of_ble_eq_true rfl) dX5_packedWith_71 ⟨Nat.zero_le _, Nat.zero_le _⟩ (fun σ8 hσ8 => ?_)
    refine s_iload_n hC dX5_packedWith_74 rfl 0 rfl ?_
    exact s_iret hC hr dX5_packedWith_75 (fun H hH => ⟨rfl, hx6, hσ8, hH⟩)
  · refine s_if_ne (tgt := 32) hC dX5_packedWith_24 (by decide) hr3 ?_ ?_
    · refine s_sub (L' := [(0, .ref (b + 0)), (2, vI a2)]) [0, 2] rfl ?_
      refine s_iload_n hC dX5_packedWith_32 rfl 1 rfl ?_
      refine s_if_ne (tgt := 43) hC dX5_packedWith_33 (by decide) h2 ?_ ?_
      · refine s_iload_n hC dX5_packedWith_43 rfl 1 rfl ?_
        refine s_iconst hC dX5_packedWith_44 ?_
        refine s_icmp_ne (tgt := 55) hC dX5_packedWith_45 (by decide) h2 (inR_c _ rfl) ?_ ?_
        · refine s_sub (L' := [(0, .ref (b + 0))]) [0] rfl ?_
          refine s_aload_n hC dX5_packedWith_55 rfl 0 rfl ?_
          refine s_iconst hC dX5_packedWith_56 ?_
          refine s_callV_P (As := [vI 2]) (rest := []) (a := b + 0) hC hKA 1 (m_X5_thingsOf (hJ.1 σ4) hσ4 (inR_c _ rfl)) rfl (cb_of hC 1 q_c_yX5_thingsOf q_i_X5 q_m_X5_176 rfl rfl dd_yX5_thingsOf ⟨Nat.le_of_ble_eq_true rfl, Nat.le_of_ble_eq_true rfl⟩) q_i_yX5_thingsOf q_x_yX5_thingsOf (s_recv hK (hJ.1 σ4) (by decide) o_Model rfl) rfl (Nat.le_of_ble_eq_true rfl) dX5_packedWith_57 ⟨Nat.zero_le _, Nat.zero_le _⟩ (fun r9 hr9 => ?_)
          exact hj5 r9 σ4 hr9 hσ4
        · refine s_sub (L' := [(0, .ref (b + 0))]) [0] rfl ?_
          refine s_aload_n hC dX5_packedWith_48 rfl 0 rfl ?_
          refine s_callV_P (As := []) (rest := []) (a := b + 0) hC hKA 0 (m_X5_pagesWith (hJ.1 σ4) hσ4) rfl (cb_of hC 0 q_c_yX5_pagesWith q_i_X5 q_m_X5_167 rfl rfl dd_yX5_pagesWith ⟨Nat.le_of_ble_eq_true rfl, Nat.le_of_ble_eq_true rfl⟩) q_i_yX5_pagesWith q_x_yX5_pagesWith (s_recv hK (hJ.1 σ4) (by decide) o_Model rfl) rfl (Nat.le_of_ble_eq_true rfl) dX5_packedWith_49 ⟨Nat.zero_le _, Nat.zero_le _⟩ (fun r10 hr10 => ?_)
          refine s_goto (tgt := 60) hC dX5_packedWith_52 (by decide) ?_
          exact hj5 r10 σ4 hr10 hσ4
      · refine s_sub (L' := [(0, .ref (b + 0))]) [0] rfl ?_
        refine s_aload_n hC dX5_packedWith_36 rfl 0 rfl ?_
        refine s_callV_W (As := []) (rest := []) (a := b + 0) hC hKA 0 (m_X5_sumOfCosts hJ hσ4) (fun _ h => h) rfl (cb_of hC 0 q_c_yX5_sumOfCosts q_i_X5 q_m_X5_182 rfl rfl dd_yX5_sumOfCosts ⟨Nat.le_of_ble_eq_true rfl, Nat.le_of_ble_eq_true rfl⟩) q_i_yX5_sumOfCosts q_x_yX5_sumOfCosts (s_recv hK (hJ.1 σ4) (by decide) o_Model rfl) rfl (Nat.le_of_ble_eq_true rfl) dX5_packedWith_37 ⟨Nat.zero_le _, Nat.zero_le _⟩ (fun r11 σ12 hr11 hσ12 => ?_)
        refine s_goto (tgt := 60) hC dX5_packedWith_40 (by decide) ?_
        exact hj5 r11 σ12 hr11 hσ12
    · refine s_sub (L' := [(0, .ref (b + 0))]) [0] rfl ?_
      refine s_bipush hC dX5_packedWith_27 (by decide) ?_
      refine s_goto (tgt := 60) hC dX5_packedWith_29 (by decide) ?_
      exact hj5 ((-5)) σ4 (inR_c _ rfl) hσ4
set_option maxHeartbeats 4000000 in
set_option maxRecDepth 100000 in
theorem m_X5_ifPacked {l : Launch} {G : Gt} {b : Nat} {σ : Blk} {J : Blk → Heap → Prop} (hJ : Wd G (layModel G b) 10 b J) (hσ : Rg σ) {a1 : Int} (h1 : inR a1) {a2 : Int} (h2 : inR a2) : MetS l yX5_ifPacked cX5_ifPacked 3 (some .int) { frames := 8, cells := 0, slots := 0, locals := 178 } G [.ref (b + 0), vI a1, vI a2] (J σ) (poW J) (Ab b 10) 0 0 (f_X5_ifPacked σ a1 a2) := by
  refine met_of (by decide) (Nat.le_of_ble_eq_true rfl) ?_
  intro p e s m below meth c hC hKA hr _
  have hK := hKA.1
  unfold f_X5_ifPacked
  refine s_sub (L' := [(0, .ref (b + 0)), (1, vI a1), (2, vI a2)]) [0, 1, 2] rfl ?_
  refine s_iload_n hC dX5_ifPacked_0 rfl 1 rfl ?_
  refine s_iconst hC dX5_ifPacked_1 ?_
  refine s_bipush hC dX5_ifPacked_2 (by decide) ?_
  refine s_callS_P (As := [vI a1, vI 0, vI 16]) (rest := []) hC hKA 3 (m_X5_within (I := J σ) h1 (inR_c _ rfl) (inR_c _ rfl)) rfl (cb_of hC 3 q_c_yX5_within q_i_X5 q_m_X5_130 rfl rfl dd_yX5_within ⟨Nat.le_of_ble_eq_true rfl, Nat.le_of_ble_eq_true rfl⟩) q_s_yX5_within rfl (Nat.le_of_ble_eq_true rfl) dX5_ifPacked_4 ⟨Nat.zero_le _, Nat.zero_le _⟩ (fun r1 hr1 => ?_)
  refine s_if_eq (tgt := 28) hC dX5_ifPacked_7 (by decide) hr1 ?_ ?_
  · refine s_sub (L' := []) [] rfl ?_
    refine s_bipush hC dX5_ifPacked_28 (by decide) ?_
    exact s_iret hC hr dX5_ifPacked_30 (fun H hH => ⟨rfl, (inR_c _ rfl), hσ, hH⟩)
  · refine s_iload_n hC dX5_ifPacked_10 rfl 2 rfl ?_
    refine s_iconst hC dX5_ifPacked_11 ?_
    refine s_iconst hC dX5_ifPacked_12 ?_
    refine s_callS_P (As := [vI a2, vI 0, vI 2]) (rest := []) hC hKA 3 (m_X5_within (I := J σ) h2 (inR_c _ rfl) (inR_c _ rfl)) rfl (cb_of hC 3 q_c_yX5_within q_i_X5 q_m_X5_130 rfl rfl dd_yX5_within ⟨Nat.le_of_ble_eq_true rfl, Nat.le_of_ble_eq_true rfl⟩) q_s_yX5_within rfl (Nat.le_of_ble_eq_true rfl) dX5_ifPacked_13 ⟨Nat.zero_le _, Nat.zero_le _⟩ (fun r2 hr2 => ?_)
    refine s_if_eq (tgt := 28) hC dX5_ifPacked_16 (by decide) hr2 ?_ ?_
    · refine s_sub (L' := []) [] rfl ?_
      refine s_bipush hC dX5_ifPacked_28 (by decide) ?_
      exact s_iret hC hr dX5_ifPacked_30 (fun H hH => ⟨rfl, (inR_c _ rfl), hσ, hH⟩)
    · refine s_aload_n hC dX5_ifPacked_19 rfl 0 rfl ?_
      refine s_iload_n hC dX5_ifPacked_20 rfl 1 rfl ?_
      refine s_iload_n hC dX5_ifPacked_21 rfl 2 rfl ?_
      refine s_callV_W (As := [vI a1, vI a2]) (rest := []) (a := b + 0) hC hKA 2 (m_X5_packedWith hJ hσ h1 h2) (fun _ h => h) rfl (cb_of hC 2 q_c_yX5_packedWith q_i_X5 q_m_X5_191 rfl rfl dd_yX5_packedWith ⟨Nat.le_of_ble_eq_true rfl, Nat.le_of_ble_eq_true rfl⟩) q_i_yX5_packedWith q_x_yX5_packedWith (s_recv hK (hJ.1 σ) (by decide) o_Model rfl) rfl (Nat.le_of_ble_eq_true rfl) dX5_ifPacked_22 ⟨Nat.zero_le _, Nat.zero_le _⟩ (fun r3 σ4 hr3 hσ4 => ?_)
      refine s_goto (tgt := 30) hC dX5_ifPacked_25 (by decide) ?_
      refine s_sub (L' := []) [] rfl ?_
      exact s_iret hC hr dX5_ifPacked_30 (fun H hH => ⟨rfl, hr3, hσ4, hH⟩)
set_option maxHeartbeats 4000000 in
set_option maxRecDepth 100000 in
theorem m_X5_bestHead {l : Launch} {G : Gt} {b : Nat} {σ : Blk} {J : Blk → Heap → Prop} (hJ : Wd G (layModel G b) 10 b J) (hσ : Rg σ)  : MetS l yX5_bestHead cX5_bestHead 6 (some .int) { frames := 8, cells := 0, slots := 0, locals := 178 } G [.ref (b + 0)] (J σ) (poW J) (Ab b 10) 0 0 (f_X5_bestHead σ) := by
  refine met_of (by decide) (Nat.le_of_ble_eq_true rfl) ?_
  intro p e s m below meth c hC hKA hr _
  have hK := hKA.1
  unfold f_X5_bestHead
  refine s_sub (L' := [(0, .ref (b + 0))]) [0] rfl ?_
  refine s_bipush hC dX5_bestHead_0 (by decide) ?_
  refine s_istore_n (L' := [(1, vI ((-6))), (0, .ref (b + 0))]) hC dX5_bestHead_2 rfl (by decide) rfl ?_
  refine s_iconst hC dX5_bestHead_3 ?_
  refine s_istore_n (L' := [(2, vI 0), (1, vI ((-6))), (0, .ref (b + 0))]) hC dX5_bestHead_4 rfl (by decide) rfl ?_
  refine s_iconst hC dX5_bestHead_5 ?_
  refine s_istore_n (L' := [(3, vI 0), (2, vI 0), (1, vI ((-6))), (0, .ref (b + 0))]) hC dX5_bestHead_6 rfl (by decide) rfl ?_
  refine s_sub (L' := [(0, .ref (b + 0)), (1, vI ((-6))), (2, vI 0), (3, vI 0)]) [3, 2, 1, 0] rfl ?_
  refine s_lp_IIIB (J := J) (F := f_X5_bestHead_L7) 7 (fun x1 x2 x3 => [(0, .ref (b + 0)), (1, vI x1), (2, vI x2), (3, vI x3)]) (fun _ _ _ _ => rfl) (fun n ih7 x1 x2 x3 σ4 hx1 hx2 hx3 hσ4 => ?_) fu ((-6)) 0 0 σ (inR_c _ rfl) (inR_c _ rfl) (inR_c _ rfl) hσ
  rw [f_X5_bestHead_L7]
  refine s_iload_n hC dX5_bestHead_7 rfl 3 rfl ?_
  refine s_bipush hC dX5_bestHead_8 (by decide) ?_
  refine s_icmp_gt (tgt := 85) hC dX5_bestHead_10 (by decide) hx3 (inR_c _ rfl) ?_ ?_
  · refine s_sub (L' := [(1, vI x1)]) [1] rfl ?_
    refine s_iload_n hC dX5_bestHead_85 rfl 0 rfl ?_
    exact s_iret hC hr dX5_bestHead_86 (fun H hH => ⟨rfl, hx1, hσ4, hH⟩)
  · refine s_aload_n hC dX5_bestHead_13 rfl 0 rfl ?_
    refine s_get (b := b) hC hK (hJ.1 σ4) (by decide) o_Model rfl q_w_X5 0 (by decide) q_f_X5_7 rfl dX5_bestHead_14 ?_
    refine s_iconst hC dX5_bestHead_17 ?_
    refine s_iaload hC hK (hJ.1 σ4) hσ4 (by decide) a_Model_1 dX5_bestHead_18 (fun v5 hv5 => ?_)
    refine s_if_le (tgt := 85) hC dX5_bestHead_19 (by decide) hv5 ?_ ?_
    · refine s_sub (L' := [(1, vI x1)]) [1] rfl ?_
      refine s_iload_n hC dX5_bestHead_85 rfl 0 rfl ?_
      exact s_iret hC hr dX5_bestHead_86 (fun H hH => ⟨rfl, hx1, hσ4, hH⟩)
    · refine s_aload_n hC dX5_bestHead_22 rfl 0 rfl ?_
      refine s_iload_n hC dX5_bestHead_23 rfl 3 rfl ?_
      refine s_iconst hC dX5_bestHead_24 ?_
      refine s_callV_W (As := [vI x3, vI 0]) (rest := []) (a := b + 0) hC hKA 2 (m_X5_packedWith hJ hσ4 hx3 (inR_c _ rfl)) (fun _ h => h) rfl (cb_of hC 2 q_c_yX5_packedWith q_i_X5 q_m_X5_191 rfl rfl dd_yX5_packedWith ⟨Nat.le_of_ble_eq_true rfl, Nat.le_of_ble_eq_true rfl⟩) q_i_yX5_packedWith q_x_yX5_packedWith (s_recv hK (hJ.1 σ4) (by decide) o_Model rfl) rfl (Nat.le_of_ble_eq_true rfl) dX5_bestHead_25 ⟨Nat.zero_le _, Nat.zero_le _⟩ (fun r6 σ7 hr6 hσ7 => ?_)
      refine s_istore (L' := [(4, vI r6), (0, .ref (b + 0)), (1, vI x1), (2, vI x2), (3, vI x3)]) hC dX5_bestHead_28 (by decide) rfl ?_
      refine s_iload hC dX5_bestHead_30 0 rfl ?_
      refine s_bipush hC dX5_bestHead_32 (by decide) ?_
      refine s_jp_I 54 (fun x9 => [(0, .ref (b + 0)), (1, vI x1), (2, vI x2), (3, vI x3), (4, vI r6)]) (fun x9 => [vI x9]) (fun x9 hx9 => ?_) (fun j8 hj8 => ?_)
      · refine s_istore (L' := [(5, vI x9), (0, .ref (b + 0)), (1, vI x1), (2, vI x2), (3, vI x3), (4, vI r6)]) hC dX5_bestHead_54 (by decide) rfl ?_
        refine s_iload hC dX5_bestHead_56 0 rfl ?_
        refine s_jp_I 66 (fun x11 => [(0, .ref (b + 0)), (2, vI x2), (3, vI x3), (4, vI r6), (5, vI x9)]) (fun x11 => [vI x11]) (fun x11 hx11 => ?_) (fun j10 hj10 => ?_)
        · refine s_istore_n (L' := [(1, vI x11), (0, .ref (b + 0)), (2, vI x2), (3, vI x3), (4, vI r6), (5, vI x9)]) hC dX5_bestHead_66 rfl (by decide) rfl ?_
          refine s_iload hC dX5_bestHead_67 5 rfl ?_
          refine s_jp_I 78 (fun x13 => [(0, .ref (b + 0)), (1, vI x11), (3, vI x3)]) (fun x13 => [vI x13]) (fun x13 hx13 => ?_) (fun j12 hj12 => ?_)
          · refine s_istore_n (L' := [(2, vI x13), (0, .ref (b + 0)), (1, vI x11), (3, vI x3)]) hC dX5_bestHead_78 rfl (by decide) rfl ?_
            refine s_iincK hC dX5_bestHead_79 3 rfl (by decide) (fun v14 => [(3, vI v14), (2, vI x13), (0, .ref (b + 0)), (1, vI x11)]) (fun _ => rfl) (fun v14 hv14 => ?_)
            refine s_goto (tgt := 7) hC dX5_bestHead_82 (by decide) ?_
            refine s_sub (L' := [(0, .ref (b + 0)), (1, vI x11), (2, vI x13), (3, vI v14)]) [2, 3, 1, 0] rfl ?_
            exact ih7 x11 x13 v14 σ7 hx11 hx13 hv14 hσ7
          · refine s_if_eq (tgt := 77) hC dX5_bestHead_69 (by decide) hx9 ?_ ?_
            · refine s_sub (L' := [(0, .ref (b + 0)), (1, vI x11), (2, vI x2), (3, vI x3)]) [1, 0, 2, 3] rfl ?_
              refine s_iload_n hC dX5_bestHead_77 rfl 2 rfl ?_
              refine s_sub (L' := [(0, .ref (b + 0)), (1, vI x11), (3, vI x3)]) [0, 1, 3] rfl ?_
              exact hj12 x2 hx2
            · refine s_sub (L' := [(0, .ref (b + 0)), (1, vI x11), (3, vI x3), (4, vI r6)]) [1, 0, 3, 4] rfl ?_
              refine s_iload hC dX5_bestHead_72 3 rfl ?_
              refine s_goto (tgt := 78) hC dX5_bestHead_74 (by decide) ?_
              refine s_sub (L' := [(0, .ref (b + 0)), (1, vI x11), (3, vI x3)]) [0, 1, 2] rfl ?_
              exact hj12 r6 hr6
        · refine s_if_eq (tgt := 65) hC dX5_bestHead_58 (by decide) hx9 ?_ ?_
          · refine s_sub (L' := [(0, .ref (b + 0)), (1, vI x1), (2, vI x2), (3, vI x3), (4, vI r6), (5, vI x9)]) [1, 2, 3, 4, 5, 0] rfl ?_
            refine s_iload_n hC dX5_bestHead_65 rfl 1 rfl ?_
            refine s_sub (L' := [(0, .ref (b + 0)), (2, vI x2), (3, vI x3), (4, vI r6), (5, vI x9)]) [0, 2, 3, 4, 5] rfl ?_
            exact hj10 x1 hx1
          · refine s_sub (L' := [(0, .ref (b + 0)), (2, vI x2), (3, vI x3), (4, vI r6), (5, vI x9)]) [1, 3, 4, 5, 0] rfl ?_
            refine s_iload_n hC dX5_bestHead_61 rfl 2 rfl ?_
            refine s_goto (tgt := 66) hC dX5_bestHead_62 (by decide) ?_
            exact hj10 x3 hx3
      · refine s_icmp_eq (tgt := 53) hC dX5_bestHead_34 (by decide) hr6 (inR_c _ rfl) ?_ ?_
        · refine s_sub (L' := [(0, .ref (b + 0)), (1, vI x1), (2, vI x2), (3, vI x3), (4, vI r6)]) [1, 2, 3, 4, 0] rfl ?_
          refine s_iconst hC dX5_bestHead_53 ?_
          exact hj8 0 (inR_c _ rfl)
        · refine s_sub (L' := [(0, .ref (b + 0)), (1, vI x1), (2, vI x2), (3, vI x3), (4, vI r6)]) [1, 2, 3, 4, 0] rfl ?_
          refine s_iload_n hC dX5_bestHead_37 rfl 1 rfl ?_
          refine s_bipush hC dX5_bestHead_38 (by decide) ?_
          refine s_icmp_eq (tgt := 49) hC dX5_bestHead_40 (by decide) hx1 (inR_c _ rfl) ?_ ?_
          · refine s_iconst hC dX5_bestHead_49 ?_
            refine s_goto (tgt := 54) hC dX5_bestHead_50 (by decide) ?_
            exact hj8 1 (inR_c _ rfl)
          · refine s_iload hC dX5_bestHead_43 4 rfl ?_
            refine s_iload_n hC dX5_bestHead_45 rfl 2 rfl ?_
            refine s_icmp_ge (tgt := 53) hC dX5_bestHead_46 (by decide) hr6 hx2 ?_ ?_
            · refine s_iconst hC dX5_bestHead_53 ?_
              exact hj8 0 (inR_c _ rfl)
            · refine s_iconst hC dX5_bestHead_49 ?_
              refine s_goto (tgt := 54) hC dX5_bestHead_50 (by decide) ?_
              exact hj8 1 (inR_c _ rfl)
set_option maxHeartbeats 4000000 in
set_option maxRecDepth 100000 in
theorem m_X5_most {l : Launch} {G : Gt} {b : Nat} {σ : Blk} {J : Blk → Heap → Prop} (hJ : Wd G (layModel G b) 10 b J) (hσ : Rg σ) {a1 : Int} (h1 : inR a1) : MetS l yX5_most cX5_most 4 (some .int) { frames := 7, cells := 0, slots := 0, locals := 156 } G [.ref (b + 0), vI a1] (J σ) (poW J) (Ab b 10) 0 0 (f_X5_most σ a1) := by
  refine met_of (by decide) (Nat.le_of_ble_eq_true rfl) ?_
  intro p e s m below meth c hC hKA hr _
  have hK := hKA.1
  unfold f_X5_most
  refine s_sub (L' := [(0, .ref (b + 0)), (1, vI a1)]) [0, 1] rfl ?_
  refine s_iload_n hC dX5_most_0 rfl 1 rfl ?_
  refine s_iconst hC dX5_most_1 ?_
  refine s_bipush hC dX5_most_2 (by decide) ?_
  refine s_callS_P (As := [vI a1, vI 0, vI 99]) (rest := []) hC hKA 3 (m_X5_within (I := J σ) h1 (inR_c _ rfl) (inR_c _ rfl)) rfl (cb_of hC 3 q_c_yX5_within q_i_X5 q_m_X5_130 rfl rfl dd_yX5_within ⟨Nat.le_of_ble_eq_true rfl, Nat.le_of_ble_eq_true rfl⟩) q_s_yX5_within rfl (Nat.le_of_ble_eq_true rfl) dX5_most_4 ⟨Nat.zero_le _, Nat.zero_le _⟩ (fun r1 hr1 => ?_)
  refine s_if_ne (tgt := 13) hC dX5_most_7 (by decide) hr1 ?_ ?_
  · refine s_bipush hC dX5_most_13 (by decide) ?_
    refine s_istore_n (L' := [(2, vI 40), (0, .ref (b + 0)), (1, vI a1)]) hC dX5_most_15 rfl (by decide) rfl ?_
    refine s_sub (L' := [(0, .ref (b + 0)), (1, vI a1), (2, vI 40)]) [1, 2, 0] rfl ?_
    refine s_lp_IB (J := J) (F := f_X5_most_L16 a1) 16 (fun x2 => [(0, .ref (b + 0)), (1, vI a1), (2, vI x2)]) (fun _ _ => rfl) (fun n ih16 x2 σ3 hx2 hσ3 => ?_) fu 40 σ (inR_c _ rfl) hσ
    rw [f_X5_most_L16]
    refine s_iload_n hC dX5_most_16 rfl 2 rfl ?_
    refine s_if_lt (tgt := 69) hC dX5_most_17 (by decide) hx2 ?_ ?_
    · refine s_sub (L' := []) [] rfl ?_
      refine s_bipush hC dX5_most_69 (by decide) ?_
      exact s_iret hC hr dX5_most_71 (fun H hH => ⟨rfl, (inR_c _ rfl), hσ3, hH⟩)
    · refine s_aload_n hC dX5_most_20 rfl 0 rfl ?_
      refine s_get (b := b) hC hK (hJ.1 σ3) (by decide) o_Model rfl q_w_X5 0 (by decide) q_f_X5_7 rfl dX5_most_21 ?_
      refine s_iconst hC dX5_most_24 ?_
      refine s_aload_n hC dX5_most_25 rfl 0 rfl ?_
      refine s_get (b := b) hC hK (hJ.1 σ3) (by decide) o_Model rfl q_w_X5 1 (by decide) q_f_X5_13 rfl dX5_most_26 ?_
      refine s_iconst hC dX5_most_29 ?_
      refine s_callS_U (As := [.ref (b + 1), vI 0, .ref (b + 2), vI 0]) (rest := []) hC hKA 4 (m_X5_moves hJ hσ3 (by decide) a_Model_1 (inR_c _ rfl) (by decide) a_Model_2 (inR_c _ rfl)) (fun _ h => h) rfl (cb_of hC 4 q_c_yX5_moves q_i_X5 q_m_X5_41 rfl rfl dd_yX5_moves ⟨Nat.le_of_ble_eq_true rfl, Nat.le_of_ble_eq_true rfl⟩) q_s_yX5_moves rfl (Nat.le_of_ble_eq_true rfl) dX5_most_30 ⟨Nat.zero_le _, Nat.zero_le _⟩ (fun σ4 hσ4 => ?_)
      refine s_aload_n hC dX5_most_33 rfl 0 rfl ?_
      refine s_iload_n hC dX5_most_34 rfl 2 rfl ?_
      refine s_putP (ty := .int) hC hK hJ (fun _ h => h) hσ4 hx2 (by decide) o_Model rfl q_w_X5 tyX5_ok nmX5 10 (by decide) q_f_X5_85 rfl (by decide +kernel) rfl rfl (fun _ => Nat.le_of_ble_eq_true rfl) u_Model_10 dX5_most_35 (fun σ5 hσ5 => ?_)
      refine s_aload_n hC dX5_most_38 rfl 0 rfl ?_
      refine s_iload_n hC dX5_most_39 rfl 1 rfl ?_
      refine s_callV_W (As := [vI a1]) (rest := []) (a := b + 0) hC hKA 1 (m_X5_writes hJ hσ5 h1) (fun _ h => h) rfl (cb_of hC 1 q_c_yX5_writes q_i_X5 q_m_X5_148 rfl rfl dd_yX5_writes ⟨Nat.le_of_ble_eq_true rfl, Nat.le_of_ble_eq_true rfl⟩) q_i_yX5_writes q_x_yX5_writes (s_recv hK (hJ.1 σ5) (by decide) o_Model rfl) rfl (Nat.le_of_ble_eq_true rfl) dX5_most_40 ⟨Nat.zero_le _, Nat.zero_le _⟩ (fun r6 σ7 hr6 hσ7 => ?_)
      refine s_istore_n (L' := [(3, vI r6), (0, .ref (b + 0)), (1, vI a1), (2, vI x2)]) hC dX5_most_43 rfl (by decide) rfl ?_
      refine s_aload_n hC dX5_most_44 rfl 1 rfl ?_
      refine s_get (b := b) hC hK (hJ.1 σ7) (by decide) o_Model rfl q_w_X5 1 (by decide) q_f_X5_13 rfl dX5_most_45 ?_
      refine s_iconst hC dX5_most_48 ?_
      refine s_aload_n hC dX5_most_49 rfl 1 rfl ?_
      refine s_get (b := b) hC hK (hJ.1 σ7) (by decide) o_Model rfl q_w_X5 0 (by decide) q_f_X5_7 rfl dX5_most_50 ?_
      refine s_iconst hC dX5_most_53 ?_
      refine s_callS_U (As := [.ref (b + 2), vI 0, .ref (b + 1), vI 0]) (rest := []) hC hKA 4 (m_X5_moves hJ hσ7 (by decide) a_Model_2 (inR_c _ rfl) (by decide) a_Model_1 (inR_c _ rfl)) (fun _ h => h) rfl (cb_of hC 4 q_c_yX5_moves q_i_X5 q_m_X5_41 rfl rfl dd_yX5_moves ⟨Nat.le_of_ble_eq_true rfl, Nat.le_of_ble_eq_true rfl⟩) q_s_yX5_moves rfl (Nat.le_of_ble_eq_true rfl) dX5_most_54 ⟨Nat.zero_le _, Nat.zero_le _⟩ (fun σ8 hσ8 => ?_)
      refine s_iload_n hC dX5_most_57 rfl 0 rfl ?_
      refine s_if_eq (tgt := 63) hC dX5_most_58 (by decide) hr6 ?_ ?_
      · refine s_sub (L' := [(0, .ref (b + 0)), (1, vI a1), (2, vI x2)]) [1, 2, 3] rfl ?_
        refine s_iincK hC dX5_most_63 2 rfl (by decide) (fun v9 => [(2, vI v9), (0, .ref (b + 0)), (1, vI a1)]) (fun _ => rfl) (fun v9 hv9 => ?_)
        refine s_goto (tgt := 16) hC dX5_most_66 (by decide) ?_
        refine s_sub (L' := [(0, .ref (b + 0)), (1, vI a1), (2, vI v9)]) [1, 2, 0] rfl ?_
        exact ih16 v9 σ8 hv9 hσ8
      · refine s_sub (L' := [(2, vI x2)]) [3] rfl ?_
        refine s_iload_n hC dX5_most_61 rfl 0 rfl ?_
        exact s_iret hC hr dX5_most_62 (fun H hH => ⟨rfl, hx2, hσ8, hH⟩)
  · refine s_sub (L' := []) [] rfl ?_
    refine s_bipush hC dX5_most_10 (by decide) ?_
    exact s_iret hC hr dX5_most_12 (fun H hH => ⟨rfl, (inR_c _ rfl), hσ, hH⟩)
set_option maxHeartbeats 4000000 in
set_option maxRecDepth 100000 in
theorem m_X5_put {l : Launch} {G : Gt} {b : Nat} {σ : Blk} {J : Blk → Heap → Prop} (hJ : Wd G (layModel G b) 10 b J) (hσ : Rg σ) {a1 : Int64} : MetS l yX5_put cX5_put 8 (some .int) { frames := 1, cells := 0, slots := 0, locals := 22 } G [.ref (b + 0), .long a1] (J σ) (poW J) (Ab b 10) 0 0 (f_X5_put σ a1) := by
  refine met_of (by decide) (Nat.le_of_ble_eq_true rfl) ?_
  intro p e s m below meth c hC hKA hr _
  have hK := hKA.1
  unfold f_X5_put
  refine s_sub (L' := [(0, .ref (b + 0)), (1, .long a1)]) [0, 1] rfl ?_
  refine s_iconst hC dX5_put_0 ?_
  refine s_istore_n (L' := [(3, vI 0), (0, .ref (b + 0)), (1, .long a1)]) hC dX5_put_1 rfl (by decide) rfl ?_
  refine s_lload_n hC dX5_put_2 rfl 2 rfl ?_
  refine s_lstore (L' := [(4, .long a1), (3, vI 0), (0, .ref (b + 0)), (1, .long a1)]) hC dX5_put_3 (by decide) rfl ?_
  refine s_iconst hC dX5_put_5 ?_
  refine s_istore (L' := [(6, vI 1), (4, .long a1), (3, vI 0), (0, .ref (b + 0)), (1, .long a1)]) hC dX5_put_6 (by decide) rfl ?_
  refine s_sub (L' := [(0, .ref (b + 0)), (1, .long a1), (3, vI 0), (4, .long a1), (6, vI 1)]) [3, 4, 2, 1, 0] rfl ?_
  refine s_jp_IJI 67 (fun x2 x3 x4 => [(0, .ref (b + 0)), (1, .long a1), (3, vI x2), (4, .long x3), (6, vI x4)]) (fun x2 x3 x4 => []) (fun x2 x3 x4 hx2 hx4 => ?_) (fun j1 hj1 => ?_)
  · refine s_iload_n hC dX5_put_67 rfl 2 rfl ?_
    refine s_if_eq (tgt := 83) hC dX5_put_68 (by decide) hx2 ?_ ?_
    · refine s_sub (L' := []) [] rfl ?_
      refine s_bipush hC dX5_put_83 (by decide) ?_
      exact s_iret hC hr dX5_put_85 (fun H hH => ⟨rfl, (inR_c _ rfl), hσ, hH⟩)
    · refine s_iload hC dX5_put_71 4 rfl ?_
      refine s_if_eq (tgt := 83) hC dX5_put_73 (by decide) hx4 ?_ ?_
      · refine s_sub (L' := []) [] rfl ?_
        refine s_bipush hC dX5_put_83 (by decide) ?_
        exact s_iret hC hr dX5_put_85 (fun H hH => ⟨rfl, (inR_c _ rfl), hσ, hH⟩)
      · refine s_sub (L' := [(0, .ref (b + 0)), (1, .long a1), (3, vI x2), (4, .long x3)]) [0, 1, 2, 3] rfl ?_
        refine s_lload hC dX5_put_76 3 rfl ?_
        refine s_lconst (v := 0) hC dX5_put_78 rfl ?_
        refine s_lcmp hC dX5_put_79 ?_
        refine s_if_eq (tgt := 86) hC dX5_put_80 (by decide) (lcmp_in _ _) ?_ ?_
        · refine s_sub (L' := [(0, .ref (b + 0)), (1, .long a1), (3, vI x2)]) [0, 1, 2] rfl ?_
          refine s_aload_n hC dX5_put_86 rfl 0 rfl ?_
          refine s_get (b := b) hC hK (hJ.1 σ) (by decide) o_Model rfl q_w_X5 8 (by decide) q_f_X5_145 rfl dX5_put_87 ?_
          refine s_iload_n hC dX5_put_90 rfl 2 rfl ?_
          refine s_iadd hC dX5_put_91 ?_
          refine s_bipush hC dX5_put_92 (by decide) ?_
          refine s_ck1 (fun v5 hv5 => ?_)
          refine s_icmp_le (tgt := 100) hC dX5_put_94 (by decide) hv5 (inR_c _ rfl) ?_ ?_
          · refine s_iload_n hC dX5_put_100 rfl 2 rfl ?_
            refine s_iconst hC dX5_put_101 ?_
            refine s_isub hC dX5_put_102 ?_
            refine s_ck0 (fun v6 hv6 => ?_)
            refine s_istore (L' := [(7, vI v6), (0, .ref (b + 0)), (1, .long a1), (3, vI x2)]) hC dX5_put_103 (by decide) rfl ?_
            refine s_sub (L' := [(0, .ref (b + 0)), (1, .long a1), (7, vI v6)]) [1, 2, 0] rfl ?_
            refine s_jp_B (J := J) 147 ([(0, .ref (b + 0))]) ([]) (fun σ8 hσ8 => ?_) (fun j7 hj7 => ?_)
            · refine s_aload_n hC dX5_put_147 rfl 0 rfl ?_
              refine s_get (b := b) hC hK (hJ.1 σ8) (by decide) o_Model rfl q_w_X5 8 (by decide) q_f_X5_145 rfl dX5_put_148 ?_
              exact s_iret hC hr dX5_put_151 (fun H hH => ⟨rfl, (hσ8 0 8), hσ8, hH⟩)
            · refine s_lp_IB (J := J) (F := f_X5_put_L105 a1 j7) 105 (fun x9 => [(0, .ref (b + 0)), (1, .long a1), (7, vI x9)]) (fun _ _ => rfl) (fun n ih105 x9 σ10 hx9 hσ10 => ?_) fu v6 σ hv6 hσ
              rw [f_X5_put_L105]
              refine s_iload hC dX5_put_105 2 rfl ?_
              refine s_if_lt (tgt := 147) hC dX5_put_107 (by decide) hx9 ?_ ?_
              · refine s_sub (L' := [(0, .ref (b + 0))]) [0] rfl ?_
                exact hj7 σ10 hσ10
              · refine s_aload_n hC dX5_put_110 rfl 0 rfl ?_
                refine s_get (b := b) hC hK (hJ.1 σ10) (by decide) o_Model rfl q_w_X5 7 (by decide) q_f_X5_28 rfl dX5_put_111 ?_
                refine s_aload_n hC dX5_put_114 rfl 0 rfl ?_
                refine s_get (b := b) hC hK (hJ.1 σ10) (by decide) o_Model rfl q_w_X5 8 (by decide) q_f_X5_145 rfl dX5_put_115 ?_
                refine s_lload_n hC dX5_put_118 rfl 1 rfl ?_
                refine s_bipush hC dX5_put_119 (by decide) ?_
                refine s_iload hC dX5_put_121 2 rfl ?_
                refine s_imul hC dX5_put_123 ?_
                refine s_lushr hC dX5_put_124 ?_
                refine s_ldc2 hC q_k_X5_194 dX5_put_125 ?_
                refine s_land hC dX5_put_128 ?_
                refine s_l2i hC dX5_put_129 ?_
                refine s_iastore hC hK hJ (fun _ h => h) hσ10 (i32_in _) (by decide) a_Model_7 dX5_put_130 (fun σ11 hσ11 => ?_)
                refine s_aload_n hC dX5_put_131 rfl 0 rfl ?_
                refine s_dup hC dX5_put_132 rfl ?_
                refine s_get (b := b) hC hK (hJ.1 σ11) (by decide) o_Model rfl q_w_X5 8 (by decide) q_f_X5_145 rfl dX5_put_133 ?_
                refine s_iconst hC dX5_put_136 ?_
                refine s_iadd hC dX5_put_137 ?_
                refine s_ck0 (fun v12 hv12 => ?_)
                refine s_putP (ty := .int) hC hK hJ (fun _ h => h) hσ11 hv12 (by decide) o_Model rfl q_w_X5 tyX5_ok nmX5 8 (by decide) q_f_X5_145 rfl (by decide +kernel) rfl rfl (fun _ => Nat.le_of_ble_eq_true rfl) u_Model_8 dX5_put_138 (fun σ13 hσ13 => ?_)
                refine s_iincK hC dX5_put_141 2 rfl (by decide) (fun v14 => [(7, vI v14), (0, .ref (b + 0)), (1, .long a1)]) (fun _ => rfl) (fun v14 hv14 => ?_)
                refine s_goto (tgt := 105) hC dX5_put_144 (by decide) ?_
                refine s_sub (L' := [(0, .ref (b + 0)), (1, .long a1), (7, vI v14)]) [1, 2, 0] rfl ?_
                exact ih105 v14 σ13 hv14 hσ13
          · refine s_sub (L' := []) [] rfl ?_
            refine s_bipush hC dX5_put_97 (by decide) ?_
            exact s_iret hC hr dX5_put_99 (fun H hH => ⟨rfl, (inR_c _ rfl), hσ, hH⟩)
        · refine s_sub (L' := []) [] rfl ?_
          refine s_bipush hC dX5_put_83 (by decide) ?_
          exact s_iret hC hr dX5_put_85 (fun H hH => ⟨rfl, (inR_c _ rfl), hσ, hH⟩)
  · refine s_lp_IJI (F := f_X5_put_L8 j1) 8 (fun x15 x16 x17 => [(0, .ref (b + 0)), (1, .long a1), (3, vI x15), (4, .long x16), (6, vI x17)]) (fun _ _ _ => rfl) (fun n ih8 x15 x16 x17 hx15 hx17 => ?_) fu 0 a1 1 (inR_c _ rfl) (inR_c _ rfl)
    rw [f_X5_put_L8]
    refine s_iload_n hC dX5_put_8 rfl 2 rfl ?_
    refine s_bipush hC dX5_put_9 (by decide) ?_
    refine s_icmp_ge (tgt := 67) hC dX5_put_11 (by decide) hx15 (inR_c _ rfl) ?_ ?_
    · exact hj1 x15 x16 x17 hx15 hx17
    · refine s_lload hC dX5_put_14 3 rfl ?_
      refine s_ldc2 hC q_k_X5_194 dX5_put_16 ?_
      refine s_land hC dX5_put_19 ?_
      refine s_lconst (v := 0) hC dX5_put_20 rfl ?_
      refine s_lcmp hC dX5_put_21 ?_
      refine s_if_eq (tgt := 67) hC dX5_put_22 (by decide) (lcmp_in _ _) ?_ ?_
      · exact hj1 x15 x16 x17 hx15 hx17
      · refine s_iload hC dX5_put_25 4 rfl ?_
        refine s_jp_I 52 (fun x19 => [(0, .ref (b + 0)), (1, .long a1), (3, vI x15), (4, .long x16)]) (fun x19 => [vI x19]) (fun x19 hx19 => ?_) (fun j18 hj18 => ?_)
        · refine s_istore (L' := [(6, vI x19), (0, .ref (b + 0)), (1, .long a1), (3, vI x15), (4, .long x16)]) hC dX5_put_52 (by decide) rfl ?_
          refine s_lload hC dX5_put_54 4 rfl ?_
          refine s_bipush hC dX5_put_56 (by decide) ?_
          refine s_lushr hC dX5_put_58 ?_
          refine s_lstore (L' := [(4, .long (lushr x16 8)), (6, vI x19), (0, .ref (b + 0)), (1, .long a1), (3, vI x15)]) hC dX5_put_59 (by decide) rfl ?_
          refine s_iincK hC dX5_put_61 4 rfl (by decide) (fun v20 => [(3, vI v20), (4, .long (lushr x16 8)), (6, vI x19), (0, .ref (b + 0)), (1, .long a1)]) (fun _ => rfl) (fun v20 hv20 => ?_)
          refine s_goto (tgt := 8) hC dX5_put_64 (by decide) ?_
          refine s_sub (L' := [(0, .ref (b + 0)), (1, .long a1), (3, vI v20), (4, .long (lushr x16 8)), (6, vI x19)]) [3, 4, 0, 1, 2] rfl ?_
          exact ih8 v20 (lushr x16 8) x19 hv20 hx19
        · refine s_if_eq (tgt := 51) hC dX5_put_27 (by decide) hx17 ?_ ?_
          · refine s_sub (L' := [(0, .ref (b + 0)), (1, .long a1), (3, vI x15), (4, .long x16)]) [0, 1, 2, 3] rfl ?_
            refine s_iconst hC dX5_put_51 ?_
            exact hj18 0 (inR_c _ rfl)
          · refine s_sub (L' := [(0, .ref (b + 0)), (1, .long a1), (3, vI x15), (4, .long x16)]) [0, 1, 2, 3] rfl ?_
            refine s_lload hC dX5_put_30 3 rfl ?_
            refine s_ldc2 hC q_k_X5_194 dX5_put_32 ?_
            refine s_land hC dX5_put_35 ?_
            refine s_l2i hC dX5_put_36 ?_
            refine s_bipush hC dX5_put_37 (by decide) ?_
            refine s_bipush hC dX5_put_39 (by decide) ?_
            refine s_callS_P (As := [vI (l2i (x16 &&& ((255 : Int64)))), vI 33, vI 126]) (rest := []) hC hKA 3 (m_X5_within (I := J σ) (i32_in _) (inR_c _ rfl) (inR_c _ rfl)) rfl (cb_of hC 3 q_c_yX5_within q_i_X5 q_m_X5_130 rfl rfl dd_yX5_within ⟨Nat.le_of_ble_eq_true rfl, Nat.le_of_ble_eq_true rfl⟩) q_s_yX5_within rfl (Nat.le_of_ble_eq_true rfl) dX5_put_41 ⟨Nat.zero_le _, Nat.zero_le _⟩ (fun r21 hr21 => ?_)
            refine s_if_eq (tgt := 51) hC dX5_put_44 (by decide) hr21 ?_ ?_
            · refine s_iconst hC dX5_put_51 ?_
              exact hj18 0 (inR_c _ rfl)
            · refine s_iconst hC dX5_put_47 ?_
              refine s_goto (tgt := 52) hC dX5_put_48 (by decide) ?_
              exact hj18 1 (inR_c _ rfl)
set_option maxHeartbeats 4000000 in
set_option maxRecDepth 100000 in
theorem m_X5_wipe {l : Launch} {G : Gt} {b : Nat} {σ : Blk} {J : Blk → Heap → Prop} (hJ : Wd G (layModel G b) 10 b J) (hσ : Rg σ)  : MetS l yX5_wipe cX5_wipe 2 (some .int) { frames := 0, cells := 0, slots := 0, locals := 0 } G [.ref (b + 0)] (J σ) (poW J) (Ab b 10) 0 0 (f_X5_wipe σ) := by
  refine met_of (by decide) (Nat.le_of_ble_eq_true rfl) ?_
  intro p e s m below meth c hC hKA hr _
  have hK := hKA.1
  unfold f_X5_wipe
  refine s_sub (L' := [(0, .ref (b + 0))]) [0] rfl ?_
  refine s_aload_n hC dX5_wipe_0 rfl 0 rfl ?_
  refine s_get (b := b) hC hK (hJ.1 σ) (by decide) o_Model rfl q_w_X5 8 (by decide) q_f_X5_145 rfl dX5_wipe_1 ?_
  refine s_nm ((hσ 0 8)) (fun v1 hv1 => ?_)
  refine s_istore_n (L' := [(1, vI v1), (0, .ref (b + 0))]) hC dX5_wipe_4 rfl (by decide) rfl ?_
  refine s_aload_n hC dX5_wipe_5 rfl 1 rfl ?_
  refine s_iconst hC dX5_wipe_6 ?_
  refine s_putP (ty := .int) hC hK hJ (fun _ h => h) hσ (inR_c _ rfl) (by decide) o_Model rfl q_w_X5 tyX5_ok nmX5 8 (by decide) q_f_X5_145 rfl (by decide +kernel) rfl rfl (fun _ => Nat.le_of_ble_eq_true rfl) u_Model_8 dX5_wipe_7 (fun σ2 hσ2 => ?_)
  refine s_iload_n hC dX5_wipe_10 rfl 0 rfl ?_
  exact s_iret hC hr dX5_wipe_11 (fun H hH => ⟨rfl, hv1, hσ2, hH⟩)
set_option maxHeartbeats 4000000 in
set_option maxRecDepth 100000 in
theorem m_X5_fault {l : Launch} {G : Gt} {b : Nat} {σ : Blk} {I : Heap → Prop} (hI : ∀ H, I H → Bk G (layModel G b) 10 b σ H) (hσ : Rg σ)  : MetS l yX5_fault cX5_fault 1 (some .int) { frames := 2, cells := 0, slots := 0, locals := 50 } G [.ref (b + 0)] I (poP I) (fun _ => False) 0 0 (f_X5_fault σ) := by
  refine met_of (by decide) (Nat.le_of_ble_eq_true rfl) ?_
  intro p e s m below meth c hC hKA hr _
  have hK := hKA.1
  unfold f_X5_fault
  refine s_sub (L' := [(0, .ref (b + 0))]) [0] rfl ?_
  refine s_aload_n hC dX5_fault_0 rfl 0 rfl ?_
  refine s_callV_P (As := []) (rest := []) (a := b + 0) hC hKA 0 (m_X5_findFault hI hσ) rfl (cb_of hC 0 q_c_yX5_findFault q_i_X5 q_m_X5_142 rfl rfl dd_yX5_findFault ⟨Nat.le_of_ble_eq_true rfl, Nat.le_of_ble_eq_true rfl⟩) q_i_yX5_findFault q_x_yX5_findFault (s_recv hK hI (by decide) o_Model rfl) rfl (Nat.le_of_ble_eq_true rfl) dX5_fault_1 ⟨Nat.zero_le _, Nat.zero_le _⟩ (fun r1 hr1 => ?_)
  exact s_iret hC hr dX5_fault_4 (fun H hH => ⟨rfl, hr1, hH⟩)
set_option maxHeartbeats 4000000 in
set_option maxRecDepth 100000 in
theorem m_X5_undo {l : Launch} {G : Gt} {b : Nat} {σ : Blk} {J : Blk → Heap → Prop} (hJ : Wd G (layModel G b) 10 b J) (hσ : Rg σ)  : MetS l yX5_undo cX5_undo 1 (some .int) { frames := 1, cells := 0, slots := 0, locals := 24 } G [.ref (b + 0)] (J σ) (poW J) (Ab b 10) 0 0 (f_X5_undo σ) := by
  refine met_of (by decide) (Nat.le_of_ble_eq_true rfl) ?_
  intro p e s m below meth c hC hKA hr _
  have hK := hKA.1
  unfold f_X5_undo
  refine s_sub (L' := [(0, .ref (b + 0))]) [0] rfl ?_
  refine s_aload_n hC dX5_undo_0 rfl 0 rfl ?_
  refine s_get (b := b) hC hK (hJ.1 σ) (by decide) o_Model rfl q_w_X5 4 (by decide) q_f_X5_37 rfl dX5_undo_1 ?_
  refine s_if_ne (tgt := 10) hC dX5_undo_4 (by decide) (hσ 0 4) ?_ ?_
  · refine s_aload_n hC dX5_undo_10 rfl 0 rfl ?_
    refine s_dup hC dX5_undo_11 rfl ?_
    refine s_get (b := b) hC hK (hJ.1 σ) (by decide) o_Model rfl q_w_X5 4 (by decide) q_f_X5_37 rfl dX5_undo_12 ?_
    refine s_iconst hC dX5_undo_15 ?_
    refine s_isub hC dX5_undo_16 ?_
    refine s_ck0 (fun v1 hv1 => ?_)
    refine s_putP (ty := .int) hC hK hJ (fun _ h => h) hσ hv1 (by decide) o_Model rfl q_w_X5 tyX5_ok nmX5 4 (by decide) q_f_X5_37 rfl (by decide +kernel) rfl rfl (fun _ => Nat.le_of_ble_eq_true rfl) u_Model_4 dX5_undo_17 (fun σ2 hσ2 => ?_)
    refine s_aload_n hC dX5_undo_20 rfl 0 rfl ?_
    refine s_get (b := b) hC hK (hJ.1 σ2) (by decide) o_Model rfl q_w_X5 3 (by decide) q_f_X5_19 rfl dX5_undo_21 ?_
    refine s_aload_n hC dX5_undo_24 rfl 0 rfl ?_
    refine s_get (b := b) hC hK (hJ.1 σ2) (by decide) o_Model rfl q_w_X5 4 (by decide) q_f_X5_37 rfl dX5_undo_25 ?_
    refine s_sipush hC dX5_undo_28 (by decide) ?_
    refine s_imul hC dX5_undo_31 ?_
    refine s_aload_n hC dX5_undo_32 rfl 0 rfl ?_
    refine s_get (b := b) hC hK (hJ.1 σ2) (by decide) o_Model rfl q_w_X5 0 (by decide) q_f_X5_7 rfl dX5_undo_33 ?_
    refine s_iconst hC dX5_undo_36 ?_
    refine s_ck2 (fun v3 hv3 => ?_)
    refine s_callS_U (As := [.ref (b + 4), vI v3, .ref (b + 1), vI 0]) (rest := []) hC hKA 4 (m_X5_moves hJ hσ2 (by decide) a_Model_4 hv3 (by decide) a_Model_1 (inR_c _ rfl)) (fun _ h => h) rfl (cb_of hC 4 q_c_yX5_moves q_i_X5 q_m_X5_41 rfl rfl dd_yX5_moves ⟨Nat.le_of_ble_eq_true rfl, Nat.le_of_ble_eq_true rfl⟩) q_s_yX5_moves rfl (Nat.le_of_ble_eq_true rfl) dX5_undo_37 ⟨Nat.zero_le _, Nat.zero_le _⟩ (fun σ4 hσ4 => ?_)
    refine s_aload_n hC dX5_undo_40 rfl 0 rfl ?_
    refine s_get (b := b) hC hK (hJ.1 σ4) (by decide) o_Model rfl q_w_X5 4 (by decide) q_f_X5_37 rfl dX5_undo_41 ?_
    exact s_iret hC hr dX5_undo_44 (fun H hH => ⟨rfl, (hσ4 0 4), hσ4, hH⟩)
  · refine s_sub (L' := []) [] rfl ?_
    refine s_bipush hC dX5_undo_7 (by decide) ?_
    exact s_iret hC hr dX5_undo_9 (fun H hH => ⟨rfl, (inR_c _ rfl), hσ, hH⟩)
set_option maxHeartbeats 4000000 in
set_option maxRecDepth 100000 in
theorem m_X5_save {l : Launch} {G : Gt} {b : Nat} {σ : Blk} {J : Blk → Heap → Prop} (hJ : Wd G (layModel G b) 10 b J) (hσ : Rg σ) {a1 : Int} (h1 : inR a1) : MetS l yX5_save cX5_save 2 (some .int) { frames := 1, cells := 0, slots := 0, locals := 24 } G [.ref (b + 0), vI a1] (J σ) (poW J) (Ab b 10) 0 0 (f_X5_save σ a1) := by
  refine met_of (by decide) (Nat.le_of_ble_eq_true rfl) ?_
  intro p e s m below meth c hC hKA hr _
  have hK := hKA.1
  unfold f_X5_save
  refine s_sub (L' := [(0, .ref (b + 0)), (1, vI a1)]) [0, 1] rfl ?_
  refine s_iload_n hC dX5_save_0 rfl 1 rfl ?_
  refine s_iconst hC dX5_save_1 ?_
  refine s_iconst hC dX5_save_2 ?_
  refine s_callS_P (As := [vI a1, vI 0, vI 1]) (rest := []) hC hKA 3 (m_X5_within (I := J σ) h1 (inR_c _ rfl) (inR_c _ rfl)) rfl (cb_of hC 3 q_c_yX5_within q_i_X5 q_m_X5_130 rfl rfl dd_yX5_within ⟨Nat.le_of_ble_eq_true rfl, Nat.le_of_ble_eq_true rfl⟩) q_s_yX5_within rfl (Nat.le_of_ble_eq_true rfl) dX5_save_3 ⟨Nat.zero_le _, Nat.zero_le _⟩ (fun r1 hr1 => ?_)
  refine s_if_ne (tgt := 12) hC dX5_save_6 (by decide) hr1 ?_ ?_
  · refine s_aload_n hC dX5_save_12 rfl 0 rfl ?_
    refine s_get (b := b) hC hK (hJ.1 σ) (by decide) o_Model rfl q_w_X5 0 (by decide) q_f_X5_7 rfl dX5_save_13 ?_
    refine s_iconst hC dX5_save_16 ?_
    refine s_aload_n hC dX5_save_17 rfl 0 rfl ?_
    refine s_get (b := b) hC hK (hJ.1 σ) (by decide) o_Model rfl q_w_X5 5 (by decide) q_f_X5_22 rfl dX5_save_18 ?_
    refine s_sipush hC dX5_save_21 (by decide) ?_
    refine s_iload_n hC dX5_save_24 rfl 1 rfl ?_
    refine s_imul hC dX5_save_25 ?_
    refine s_ck0 (fun v2 hv2 => ?_)
    refine s_callS_U (As := [.ref (b + 1), vI 0, .ref (b + 5), vI v2]) (rest := []) hC hKA 4 (m_X5_moves hJ hσ (by decide) a_Model_1 (inR_c _ rfl) (by decide) a_Model_5 hv2) (fun _ h => h) rfl (cb_of hC 4 q_c_yX5_moves q_i_X5 q_m_X5_41 rfl rfl dd_yX5_moves ⟨Nat.le_of_ble_eq_true rfl, Nat.le_of_ble_eq_true rfl⟩) q_s_yX5_moves rfl (Nat.le_of_ble_eq_true rfl) dX5_save_26 ⟨Nat.zero_le _, Nat.zero_le _⟩ (fun σ3 hσ3 => ?_)
    refine s_aload_n hC dX5_save_29 rfl 0 rfl ?_
    refine s_get (b := b) hC hK (hJ.1 σ3) (by decide) o_Model rfl q_w_X5 6 (by decide) q_f_X5_25 rfl dX5_save_30 ?_
    refine s_iload_n hC dX5_save_33 rfl 1 rfl ?_
    refine s_iconst hC dX5_save_34 ?_
    refine s_iastore hC hK hJ (fun _ h => h) hσ3 (inR_c _ rfl) (by decide) a_Model_6 dX5_save_35 (fun σ4 hσ4 => ?_)
    refine s_aload_n hC dX5_save_36 rfl 0 rfl ?_
    refine s_get (b := b) hC hK (hJ.1 σ4) (by decide) o_Model rfl q_w_X5 0 (by decide) q_f_X5_7 rfl dX5_save_37 ?_
    refine s_iconst hC dX5_save_40 ?_
    refine s_iaload hC hK (hJ.1 σ4) hσ4 (by decide) a_Model_1 dX5_save_41 (fun v5 hv5 => ?_)
    exact s_iret hC hr dX5_save_42 (fun H hH => ⟨rfl, hv5, hσ4, hH⟩)
  · refine s_sub (L' := []) [] rfl ?_
    refine s_bipush hC dX5_save_9 (by decide) ?_
    exact s_iret hC hr dX5_save_11 (fun H hH => ⟨rfl, (inR_c _ rfl), hσ, hH⟩)
set_option maxHeartbeats 4000000 in
set_option maxRecDepth 100000 in
theorem m_X5_restore {l : Launch} {G : Gt} {b : Nat} {σ : Blk} {J : Blk → Heap → Prop} (hJ : Wd G (layModel G b) 10 b J) (hσ : Rg σ) {a1 : Int} (h1 : inR a1) : MetS l yX5_restore cX5_restore 2 (some .int) { frames := 2, cells := 0, slots := 0, locals := 46 } G [.ref (b + 0), vI a1] (J σ) (poW J) (Ab b 10) 0 0 (f_X5_restore σ a1) := by
  refine met_of (by decide) (Nat.le_of_ble_eq_true rfl) ?_
  intro p e s m below meth c hC hKA hr _
  have hK := hKA.1
  unfold f_X5_restore
  refine s_sub (L' := [(0, .ref (b + 0)), (1, vI a1)]) [0, 1] rfl ?_
  refine s_iload_n hC dX5_restore_0 rfl 1 rfl ?_
  refine s_iconst hC dX5_restore_1 ?_
  refine s_iconst hC dX5_restore_2 ?_
  refine s_callS_P (As := [vI a1, vI 0, vI 1]) (rest := []) hC hKA 3 (m_X5_within (I := J σ) h1 (inR_c _ rfl) (inR_c _ rfl)) rfl (cb_of hC 3 q_c_yX5_within q_i_X5 q_m_X5_130 rfl rfl dd_yX5_within ⟨Nat.le_of_ble_eq_true rfl, Nat.le_of_ble_eq_true rfl⟩) q_s_yX5_within rfl (Nat.le_of_ble_eq_true rfl) dX5_restore_3 ⟨Nat.zero_le _, Nat.zero_le _⟩ (fun r1 hr1 => ?_)
  refine s_if_ne (tgt := 12) hC dX5_restore_6 (by decide) hr1 ?_ ?_
  · refine s_aload_n hC dX5_restore_12 rfl 0 rfl ?_
    refine s_get (b := b) hC hK (hJ.1 σ) (by decide) o_Model rfl q_w_X5 6 (by decide) q_f_X5_25 rfl dX5_restore_13 ?_
    refine s_iload_n hC dX5_restore_16 rfl 1 rfl ?_
    refine s_iaload hC hK (hJ.1 σ) hσ (by decide) a_Model_6 dX5_restore_17 (fun v2 hv2 => ?_)
    refine s_if_ne (tgt := 24) hC dX5_restore_18 (by decide) hv2 ?_ ?_
    · refine s_aload_n hC dX5_restore_24 rfl 0 rfl ?_
      refine s_aload_n hC dX5_restore_25 rfl 0 rfl ?_
      refine s_get (b := b) hC hK (hJ.1 σ) (by decide) o_Model rfl q_w_X5 0 (by decide) q_f_X5_7 rfl dX5_restore_26 ?_
      refine s_callV_U (As := [.ref (b + 1)]) (rest := []) (a := b + 0) hC hKA 1 (m_X5_record hJ hσ (by decide) a_Model_1) (fun _ h => h) rfl (cb_of hC 1 q_c_yX5_record q_i_X5 q_m_X5_138 rfl rfl dd_yX5_record ⟨Nat.le_of_ble_eq_true rfl, Nat.le_of_ble_eq_true rfl⟩) q_i_yX5_record q_x_yX5_record (s_recv hK (hJ.1 σ) (by decide) o_Model rfl) rfl (Nat.le_of_ble_eq_true rfl) dX5_restore_29 ⟨Nat.zero_le _, Nat.zero_le _⟩ (fun σ3 hσ3 => ?_)
      refine s_aload_n hC dX5_restore_32 rfl 0 rfl ?_
      refine s_get (b := b) hC hK (hJ.1 σ3) (by decide) o_Model rfl q_w_X5 5 (by decide) q_f_X5_22 rfl dX5_restore_33 ?_
      refine s_sipush hC dX5_restore_36 (by decide) ?_
      refine s_iload_n hC dX5_restore_39 rfl 1 rfl ?_
      refine s_imul hC dX5_restore_40 ?_
      refine s_aload_n hC dX5_restore_41 rfl 0 rfl ?_
      refine s_get (b := b) hC hK (hJ.1 σ3) (by decide) o_Model rfl q_w_X5 0 (by decide) q_f_X5_7 rfl dX5_restore_42 ?_
      refine s_iconst hC dX5_restore_45 ?_
      refine s_ck2 (fun v4 hv4 => ?_)
      refine s_callS_U (As := [.ref (b + 5), vI v4, .ref (b + 1), vI 0]) (rest := []) hC hKA 4 (m_X5_moves hJ hσ3 (by decide) a_Model_5 hv4 (by decide) a_Model_1 (inR_c _ rfl)) (fun _ h => h) rfl (cb_of hC 4 q_c_yX5_moves q_i_X5 q_m_X5_41 rfl rfl dd_yX5_moves ⟨Nat.le_of_ble_eq_true rfl, Nat.le_of_ble_eq_true rfl⟩) q_s_yX5_moves rfl (Nat.le_of_ble_eq_true rfl) dX5_restore_46 ⟨Nat.zero_le _, Nat.zero_le _⟩ (fun σ5 hσ5 => ?_)
      refine s_aload_n hC dX5_restore_49 rfl 0 rfl ?_
      refine s_get (b := b) hC hK (hJ.1 σ5) (by decide) o_Model rfl q_w_X5 0 (by decide) q_f_X5_7 rfl dX5_restore_50 ?_
      refine s_iconst hC dX5_restore_53 ?_
      refine s_iaload hC hK (hJ.1 σ5) hσ5 (by decide) a_Model_1 dX5_restore_54 (fun v6 hv6 => ?_)
      exact s_iret hC hr dX5_restore_55 (fun H hH => ⟨rfl, hv6, hσ5, hH⟩)
    · refine s_sub (L' := []) [] rfl ?_
      refine s_bipush hC dX5_restore_21 (by decide) ?_
      exact s_iret hC hr dX5_restore_23 (fun H hH => ⟨rfl, (inR_c _ rfl), hσ, hH⟩)
  · refine s_sub (L' := []) [] rfl ?_
    refine s_bipush hC dX5_restore_9 (by decide) ?_
    exact s_iret hC hr dX5_restore_11 (fun H hH => ⟨rfl, (inR_c _ rfl), hσ, hH⟩)
