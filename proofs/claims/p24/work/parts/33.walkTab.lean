set_option maxHeartbeats 4000000 in
set_option maxRecDepth 100000 in
theorem m_L_low {l : Launch} {G : Gt} {I : Heap → Prop} {a1 : Int} (h1 : inR a1) {a2 : Int} (h2 : inR a2) : MetS l yL_low cL_low 2 (some .int) { frames := 0, cells := 0, slots := 0, locals := 0 } G [vI a1, vI a2] I (poP I) (fun _ => False) 0 0 (g_L_low a1 a2) := by
  refine met_of (by decide) (Nat.le_of_ble_eq_true rfl) ?_
  intro p e s m below meth c hC hKA hr _
  have hK := hKA.1
  unfold g_L_low
  refine s_sub (L' := [(0, vI a1), (1, vI a2)]) [0, 1] rfl ?_
  refine s_iload_n hC dL_low_0 rfl 0 rfl ?_
  refine s_ldc (a := 2147483647) hC q_k_L_9 rfl dL_low_1 ?_
  refine s_iand hC dL_low_3 ?_
  refine s_iload_n hC dL_low_4 rfl 1 rfl ?_
  refine s_iremV hC dL_low_5 (i32_in _) h2 (fun v1 hv1 => ?_)
  exact s_iret hC hr dL_low_6 (fun H hH => ⟨rfl, hv1, hH⟩)
set_option maxHeartbeats 4000000 in
set_option maxRecDepth 100000 in
theorem m_L_cells {l : Launch} {G : Gt} {I : Heap → Prop} {a1 : Int} (h1 : inR a1) : MetS l yL_cells cL_cells 2 (some .int) { frames := 0, cells := 0, slots := 0, locals := 0 } G [vI a1] I (poP I) (fun _ => False) 0 0 (g_L_cells a1) := by
  refine met_of (by decide) (Nat.le_of_ble_eq_true rfl) ?_
  intro p e s m below meth c hC hKA hr _
  have hK := hKA.1
  unfold g_L_cells
  refine s_sub (L' := [(0, vI a1)]) [0] rfl ?_
  refine s_iload_n hC dL_cells_0 rfl 0 rfl ?_
  refine s_bipush hC dL_cells_1 (by decide) ?_
  refine s_ishr hC dL_cells_3 ?_
  refine s_iconst hC dL_cells_4 ?_
  refine s_iand hC dL_cells_5 ?_
  refine s_nm ((i32_in _)) (fun v1 hv1 => ?_)
  refine s_istore_n (L' := [(1, vI v1), (0, vI a1)]) hC dL_cells_6 rfl (by decide) rfl ?_
  refine s_iload_n hC dL_cells_7 rfl 0 rfl ?_
  refine s_iconst hC dL_cells_8 ?_
  refine s_icmp_ne (tgt := 16) hC dL_cells_9 (by decide) hv1 (inR_c _ rfl) ?_ ?_
  · refine s_sub (L' := [(0, vI a1), (1, vI v1)]) [1, 0] rfl ?_
    refine s_iconst hC dL_cells_16 ?_
    refine s_iload_n hC dL_cells_17 rfl 1 rfl ?_
    refine s_isub hC dL_cells_18 ?_
    refine s_iload_n hC dL_cells_19 rfl 0 rfl ?_
    refine s_bipush hC dL_cells_20 (by decide) ?_
    refine s_iand hC dL_cells_22 ?_
    refine s_iadd hC dL_cells_23 ?_
    refine s_sub (L' := []) [] rfl ?_
    refine s_ck0 (fun v2 hv2 => ?_)
    exact s_iret hC hr dL_cells_24 (fun H hH => ⟨rfl, hv2, hH⟩)
  · refine s_sub (L' := []) [] rfl ?_
    refine s_iconst hC dL_cells_12 ?_
    refine s_goto (tgt := 24) hC dL_cells_13 (by decide) ?_
    exact s_iret hC hr dL_cells_24 (fun H hH => ⟨rfl, (inR_c _ rfl), hH⟩)
set_option maxHeartbeats 4000000 in
set_option maxRecDepth 100000 in
theorem m_L_free {l : Launch} {G : Gt} {b : Nat} {σ : Blk} {I : Heap → Prop} (hI : ∀ H, I H → Bk G (layTab G b) 7 b σ H) (hσ : Rg σ) {a1 : Int} (h1 : inR a1) {i2 n2 : Nat} (hi2 : i2 < 7) (ha2 : isA G (layTab G b) i2 n2) {a3 : Int} (h3 : inR a3) : MetS l yL_free cL_free 5 (some .int) { frames := 1, cells := 0, slots := 0, locals := 21 } G [vI a1, .ref (b + i2), vI a3] I (poP I) (fun _ => False) 0 0 (g_L_free σ a1 i2 n2 a3) := by
  refine met_of (by decide) (Nat.le_of_ble_eq_true rfl) ?_
  intro p e s m below meth c hC hKA hr _
  have hK := hKA.1
  unfold g_L_free
  refine s_sub (L' := [(0, vI a1), (1, .ref (b + i2)), (2, vI a3)]) [0, 1, 2] rfl ?_
  refine s_bipush hC dL_free_0 (by decide) ?_
  refine s_istore_n (L' := [(3, vI 40), (0, vI a1), (1, .ref (b + i2)), (2, vI a3)]) hC dL_free_2 rfl (by decide) rfl ?_
  refine s_iconst hC dL_free_3 ?_
  refine s_istore (L' := [(4, vI 0), (3, vI 40), (0, vI a1), (1, .ref (b + i2)), (2, vI a3)]) hC dL_free_4 (by decide) rfl ?_
  refine s_sub (L' := [(0, vI a1), (1, .ref (b + i2)), (2, vI a3), (3, vI 40), (4, vI 0)]) [2, 3, 4, 1, 0] rfl ?_
  refine s_lp_II (F := g_L_free_L6 σ a1 i2 n2 a3) 6 (fun x1 x2 => [(0, vI a1), (1, .ref (b + i2)), (2, vI a3), (3, vI x1), (4, vI x2)]) (fun _ _ => rfl) (fun n ih6 x1 x2 hx1 hx2 => ?_) fu 40 0 (inR_c _ rfl) (inR_c _ rfl)
  rw [g_L_free_L6]
  refine s_iload hC dL_free_6 4 rfl ?_
  refine s_iload_n hC dL_free_8 rfl 2 rfl ?_
  refine s_icmp_ge (tgt := 46) hC dL_free_9 (by decide) hx2 h3 ?_ ?_
  · refine s_sub (L' := [(3, vI x1)]) [3] rfl ?_
    refine s_iload_n hC dL_free_46 rfl 0 rfl ?_
    exact s_iret hC hr dL_free_47 (fun H hH => ⟨rfl, hx1, hH⟩)
  · refine s_iload_n hC dL_free_12 rfl 3 rfl ?_
    refine s_aload_n hC dL_free_13 rfl 1 rfl ?_
    refine s_iload hC dL_free_14 4 rfl ?_
    refine s_iaload hC hK hI hσ hi2 ha2 dL_free_16 (fun v3 hv3 => ?_)
    refine s_bipush hC dL_free_17 (by decide) ?_
    refine s_ishr hC dL_free_19 ?_
    refine s_bipush hC dL_free_20 (by decide) ?_
    refine s_idiv hC dL_free_22 (i32_in _) (inR_c _ rfl) (by decide) (fun v4 hv4 => ?_)
    refine s_iload_n hC dL_free_23 rfl 0 rfl ?_
    refine s_jp_I 38 (fun x6 => [(0, vI a1), (1, .ref (b + i2)), (2, vI a3), (4, vI x2)]) (fun x6 => [vI x6, vI x1]) (fun x6 hx6 => ?_) (fun j5 hj5 => ?_)
    · refine s_isub hC dL_free_38 ?_
      refine s_ck0 (fun v7 hv7 => ?_)
      refine s_istore_n (L' := [(3, vI v7), (0, vI a1), (1, .ref (b + i2)), (2, vI a3), (4, vI x2)]) hC dL_free_39 rfl (by decide) rfl ?_
      refine s_iincK hC dL_free_40 4 rfl (by decide) (fun v8 => [(4, vI v8), (3, vI v7), (0, vI a1), (1, .ref (b + i2)), (2, vI a3)]) (fun _ => rfl) (fun v8 hv8 => ?_)
      refine s_goto (tgt := 6) hC dL_free_43 (by decide) ?_
      refine s_sub (L' := [(0, vI a1), (1, .ref (b + i2)), (2, vI a3), (3, vI v7), (4, vI v8)]) [2, 3, 4, 1, 0] rfl ?_
      exact ih6 v7 v8 hv7 hv8
    · refine s_icmp_ne (tgt := 37) hC dL_free_24 (by decide) hv4 h1 ?_ ?_
      · refine s_sub (L' := [(0, vI a1), (1, .ref (b + i2)), (2, vI a3), (4, vI x2)]) [0, 1, 2, 4] rfl ?_
        refine s_iconst hC dL_free_37 ?_
        exact hj5 0 (inR_c _ rfl)
      · refine s_sub (L' := [(0, vI a1), (1, .ref (b + i2)), (2, vI a3), (4, vI x2)]) [0, 1, 2, 4] rfl ?_
        refine s_aload_n hC dL_free_27 rfl 1 rfl ?_
        refine s_iload hC dL_free_28 3 rfl ?_
        refine s_iaload hC hK hI hσ hi2 ha2 dL_free_30 (fun v9 hv9 => ?_)
        refine s_callS_P (As := [vI v9]) (rest := [vI x1]) hC hKA 1 (m_L_cells (I := I) hv9) rfl (cb_of hC 1 q_c_yL_cells q_i_L q_m_L_10 rfl rfl dd_yL_cells ⟨Nat.le_of_ble_eq_true rfl, Nat.le_of_ble_eq_true rfl⟩) q_s_yL_cells rfl (Nat.le_of_ble_eq_true rfl) dL_free_31 ⟨Nat.zero_le _, Nat.zero_le _⟩ (fun r10 hr10 => ?_)
        refine s_goto (tgt := 38) hC dL_free_34 (by decide) ?_
        exact hj5 r10 hr10
set_option maxHeartbeats 4000000 in
set_option maxRecDepth 100000 in
theorem m_L_at {l : Launch} {G : Gt} {b : Nat} {σ : Blk} {I : Heap → Prop} (hI : ∀ H, I H → Bk G (layTab G b) 7 b σ H) (hσ : Rg σ) {a1 : Int} (h1 : inR a1) {i2 n2 : Nat} (hi2 : i2 < 7) (ha2 : isA G (layTab G b) i2 n2) {a3 : Int} (h3 : inR a3) : MetS l yL_at cL_at 4 (some .int) { frames := 0, cells := 0, slots := 0, locals := 0 } G [vI a1, .ref (b + i2), vI a3] I (poP I) (fun _ => False) 0 0 (g_L_at σ a1 i2 n2 a3) := by
  refine met_of (by decide) (Nat.le_of_ble_eq_true rfl) ?_
  intro p e s m below meth c hC hKA hr _
  have hK := hKA.1
  unfold g_L_at
  refine s_sub (L' := [(0, vI a1), (1, .ref (b + i2)), (2, vI a3)]) [0, 1, 2] rfl ?_
  refine s_iconst hC dL_at_0 ?_
  refine s_istore_n (L' := [(3, vI 0), (0, vI a1), (1, .ref (b + i2)), (2, vI a3)]) hC dL_at_1 rfl (by decide) rfl ?_
  refine s_sub (L' := [(0, vI a1), (1, .ref (b + i2)), (2, vI a3), (3, vI 0)]) [1, 2, 3, 0] rfl ?_
  refine s_lp_I (F := g_L_at_L2 σ a1 i2 n2 a3) 2 (fun x1 => [(0, vI a1), (1, .ref (b + i2)), (2, vI a3), (3, vI x1)]) (fun _ => rfl) (fun n ih2 x1 hx1 => ?_) fu 0 (inR_c _ rfl)
  rw [g_L_at_L2]
  refine s_iload_n hC dL_at_2 rfl 3 rfl ?_
  refine s_iload_n hC dL_at_3 rfl 2 rfl ?_
  refine s_icmp_ge (tgt := 25) hC dL_at_4 (by decide) hx1 h3 ?_ ?_
  · refine s_sub (L' := []) [] rfl ?_
    refine s_iconst hC dL_at_25 ?_
    exact s_iret hC hr dL_at_26 (fun H hH => ⟨rfl, (inR_c _ rfl), hH⟩)
  · refine s_aload_n hC dL_at_7 rfl 1 rfl ?_
    refine s_iload_n hC dL_at_8 rfl 3 rfl ?_
    refine s_iaload hC hK hI hσ hi2 ha2 dL_at_9 (fun v2 hv2 => ?_)
    refine s_bipush hC dL_at_10 (by decide) ?_
    refine s_ishr hC dL_at_12 ?_
    refine s_iload_n hC dL_at_13 rfl 0 rfl ?_
    refine s_icmp_ne (tgt := 19) hC dL_at_14 (by decide) (i32_in _) h1 ?_ ?_
    · refine s_iincK hC dL_at_19 3 rfl (by decide) (fun v3 => [(3, vI v3), (0, vI a1), (1, .ref (b + i2)), (2, vI a3)]) (fun _ => rfl) (fun v3 hv3 => ?_)
      refine s_goto (tgt := 2) hC dL_at_22 (by decide) ?_
      refine s_sub (L' := [(0, vI a1), (1, .ref (b + i2)), (2, vI a3), (3, vI v3)]) [1, 2, 3, 0] rfl ?_
      exact ih2 v3 hv3
    · refine s_sub (L' := [(3, vI x1)]) [3] rfl ?_
      refine s_iload_n hC dL_at_17 rfl 0 rfl ?_
      exact s_iret hC hr dL_at_18 (fun H hH => ⟨rfl, hx1, hH⟩)
set_option maxHeartbeats 4000000 in
set_option maxRecDepth 100000 in
theorem m_L_find {l : Launch} {G : Gt} {b : Nat} {σ : Blk} {I : Heap → Prop} (hI : ∀ H, I H → Bk G (layTab G b) 7 b σ H) (hσ : Rg σ) {a1 : Int} (h1 : inR a1) {a2 : Int} (h2 : inR a2) {a3 : Int} (h3 : inR a3) {i4 n4 : Nat} (hi4 : i4 < 7) (ha4 : isA G (layTab G b) i4 n4) {a5 : Int} (h5 : inR a5) : MetS l yL_find cL_find 6 (some .int) { frames := 0, cells := 0, slots := 0, locals := 0 } G [vI a1, vI a2, vI a3, .ref (b + i4), vI a5] I (poP I) (fun _ => False) 0 0 (g_L_find σ a1 a2 a3 i4 n4 a5) := by
  refine met_of (by decide) (Nat.le_of_ble_eq_true rfl) ?_
  intro p e s m below meth c hC hKA hr _
  have hK := hKA.1
  unfold g_L_find
  refine s_sub (L' := [(0, vI a1), (1, vI a2), (2, vI a3), (3, .ref (b + i4)), (4, vI a5)]) [0, 1, 2, 3, 4] rfl ?_
  refine s_iconst hC dL_find_0 ?_
  refine s_istore (L' := [(5, vI 0), (0, vI a1), (1, vI a2), (2, vI a3), (3, .ref (b + i4)), (4, vI a5)]) hC dL_find_1 (by decide) rfl ?_
  refine s_sub (L' := [(0, vI a1), (1, vI a2), (2, vI a3), (3, .ref (b + i4)), (4, vI a5), (5, vI 0)]) [1, 2, 3, 4, 5, 0] rfl ?_
  refine s_lp_I (F := g_L_find_L3 σ a1 a2 a3 i4 n4 a5) 3 (fun x1 => [(0, vI a1), (1, vI a2), (2, vI a3), (3, .ref (b + i4)), (4, vI a5), (5, vI x1)]) (fun _ => rfl) (fun n ih3 x1 hx1 => ?_) fu 0 (inR_c _ rfl)
  rw [g_L_find_L3]
  refine s_iload hC dL_find_3 5 rfl ?_
  refine s_iload hC dL_find_5 4 rfl ?_
  refine s_icmp_ge (tgt := 59) hC dL_find_7 (by decide) hx1 h5 ?_ ?_
  · refine s_sub (L' := []) [] rfl ?_
    refine s_iconst hC dL_find_59 ?_
    exact s_iret hC hr dL_find_60 (fun H hH => ⟨rfl, (inR_c _ rfl), hH⟩)
  · refine s_aload_n hC dL_find_10 rfl 3 rfl ?_
    refine s_iload hC dL_find_11 5 rfl ?_
    refine s_iaload hC hK hI hσ hi4 ha4 dL_find_13 (fun v2 hv2 => ?_)
    refine s_bipush hC dL_find_14 (by decide) ?_
    refine s_ishr hC dL_find_16 ?_
    refine s_iconst hC dL_find_17 ?_
    refine s_iand hC dL_find_18 ?_
    refine s_iload_n hC dL_find_19 rfl 0 rfl ?_
    refine s_jp_ 53 ([(0, vI a1), (1, vI a2), (2, vI a3), (3, .ref (b + i4)), (4, vI a5), (5, vI x1)]) ([]) ?_ (fun j3 hj3 => ?_)
    · refine s_iincK hC dL_find_53 5 rfl (by decide) (fun v4 => [(5, vI v4), (0, vI a1), (1, vI a2), (2, vI a3), (3, .ref (b + i4)), (4, vI a5)]) (fun _ => rfl) (fun v4 hv4 => ?_)
      refine s_goto (tgt := 3) hC dL_find_56 (by decide) ?_
      refine s_sub (L' := [(0, vI a1), (1, vI a2), (2, vI a3), (3, .ref (b + i4)), (4, vI a5), (5, vI v4)]) [1, 2, 3, 4, 5, 0] rfl ?_
      exact ih3 v4 hv4
    · refine s_icmp_ne (tgt := 53) hC dL_find_20 (by decide) (i32_in _) h1 ?_ ?_
      · exact hj3
      · refine s_aload_n hC dL_find_23 rfl 3 rfl ?_
        refine s_iload hC dL_find_24 5 rfl ?_
        refine s_iaload hC hK hI hσ hi4 ha4 dL_find_26 (fun v5 hv5 => ?_)
        refine s_bipush hC dL_find_27 (by decide) ?_
        refine s_ishr hC dL_find_29 ?_
        refine s_bipush hC dL_find_30 (by decide) ?_
        refine s_iand hC dL_find_32 ?_
        refine s_iload_n hC dL_find_33 rfl 1 rfl ?_
        refine s_icmp_ne (tgt := 53) hC dL_find_34 (by decide) (i32_in _) h2 ?_ ?_
        · exact hj3
        · refine s_aload_n hC dL_find_37 rfl 3 rfl ?_
          refine s_iload hC dL_find_38 5 rfl ?_
          refine s_iaload hC hK hI hσ hi4 ha4 dL_find_40 (fun v6 hv6 => ?_)
          refine s_iconst hC dL_find_41 ?_
          refine s_ishr hC dL_find_42 ?_
          refine s_bipush hC dL_find_43 (by decide) ?_
          refine s_iand hC dL_find_45 ?_
          refine s_iload_n hC dL_find_46 rfl 2 rfl ?_
          refine s_icmp_ne (tgt := 53) hC dL_find_47 (by decide) (i32_in _) h3 ?_ ?_
          · exact hj3
          · refine s_sub (L' := [(5, vI x1)]) [5] rfl ?_
            refine s_iload hC dL_find_50 0 rfl ?_
            exact s_iret hC hr dL_find_52 (fun H hH => ⟨rfl, hx1, hH⟩)
set_option maxHeartbeats 4000000 in
set_option maxRecDepth 100000 in
theorem m_L_add {l : Launch} {G : Gt} {b : Nat} {σ : Blk} {J : Blk → Heap → Prop} (hJ : Wd G (layTab G b) 7 b J) (hσ : Rg σ) {a1 : Int} (h1 : inR a1) {a2 : Int} (h2 : inR a2) {a3 : Int} (h3 : inR a3) {a4 : Int} (h4 : inR a4) {a5 : Int} (h5 : inR a5) {i6 n6 : Nat} (hi6 : i6 < 7) (ha6 : isA G (layTab G b) i6 n6) {i7 n7 : Nat} (hi7 : i7 < 7) (ha7 : isA G (layTab G b) i7 n7) : MetS l yL_add cL_add 7 none { frames := 0, cells := 0, slots := 0, locals := 0 } G [vI a1, vI a2, vI a3, vI a4, vI a5, .ref (b + i6), .ref (b + i7)] (J σ) (poU J) (Ab b 7) 0 0 (g_L_add σ a1 a2 a3 a4 a5 i6 n6 i7 n7) := by
  refine met_of (by decide) (Nat.le_of_ble_eq_true rfl) ?_
  intro p e s m below meth c hC hKA hr _
  have hK := hKA.1
  unfold g_L_add
  refine s_sub (L' := [(0, vI a1), (1, vI a2), (2, vI a3), (3, vI a4), (4, vI a5), (5, .ref (b + i6)), (6, .ref (b + i7))]) [0, 1, 2, 3, 4, 5, 6] rfl ?_
  refine s_aload hC dL_add_0 5 rfl ?_
  refine s_aload hC dL_add_2 6 rfl ?_
  refine s_iconst hC dL_add_4 ?_
  refine s_dup2 hC dL_add_5 rfl rfl ?_
  refine s_iaload hC hK (hJ.1 σ) hσ hi7 ha7 dL_add_6 (fun v1 hv1 => ?_)
  refine s_dup_x2 hC dL_add_7 rfl rfl rfl ?_
  refine s_iconst hC dL_add_8 ?_
  refine s_iadd hC dL_add_9 ?_
  refine s_ck0 (fun v2 hv2 => ?_)
  refine s_iastore hC hK hJ (fun _ h => h) hσ hv2 hi7 ha7 dL_add_10 (fun σ3 hσ3 => ?_)
  refine s_iload_n hC dL_add_11 rfl 0 rfl ?_
  refine s_bipush hC dL_add_12 (by decide) ?_
  refine s_ishl hC dL_add_14 ?_
  refine s_iload_n hC dL_add_15 rfl 1 rfl ?_
  refine s_bipush hC dL_add_16 (by decide) ?_
  refine s_ishl hC dL_add_18 ?_
  refine s_ior hC dL_add_19 ?_
  refine s_iload_n hC dL_add_20 rfl 2 rfl ?_
  refine s_bipush hC dL_add_21 (by decide) ?_
  refine s_ishl hC dL_add_23 ?_
  refine s_ior hC dL_add_24 ?_
  refine s_iload_n hC dL_add_25 rfl 3 rfl ?_
  refine s_iconst hC dL_add_26 ?_
  refine s_ishl hC dL_add_27 ?_
  refine s_ior hC dL_add_28 ?_
  refine s_iload hC dL_add_29 4 rfl ?_
  refine s_ior hC dL_add_31 ?_
  refine s_iastore hC hK hJ (fun _ h => h) hσ3 (i32_in _) hi6 ha6 dL_add_32 (fun σ4 hσ4 => ?_)
  exact s_vret hC hr dL_add_33 (fun H hH => ⟨rfl, hσ4, hH⟩)
set_option maxHeartbeats 4000000 in
set_option maxRecDepth 100000 in
theorem m_L_drop {l : Launch} {G : Gt} {b : Nat} {σ : Blk} {J : Blk → Heap → Prop} (hJ : Wd G (layTab G b) 7 b J) (hσ : Rg σ) {a1 : Int} (h1 : inR a1) {i2 n2 : Nat} (hi2 : i2 < 7) (ha2 : isA G (layTab G b) i2 n2) {i3 n3 : Nat} (hi3 : i3 < 7) (ha3 : isA G (layTab G b) i3 n3) : MetS l yL_drop cL_drop 3 none { frames := 0, cells := 0, slots := 0, locals := 0 } G [vI a1, .ref (b + i2), .ref (b + i3)] (J σ) (poU J) (Ab b 7) 0 0 (g_L_drop σ a1 i2 n2 i3 n3) := by
  refine met_of (by decide) (Nat.le_of_ble_eq_true rfl) ?_
  intro p e s m below meth c hC hKA hr _
  have hK := hKA.1
  unfold g_L_drop
  refine s_sub (L' := [(0, vI a1), (1, .ref (b + i2)), (2, .ref (b + i3))]) [0, 1, 2] rfl ?_
  refine s_iload_n hC dL_drop_0 rfl 0 rfl ?_
  refine s_if_lt (tgt := 17) hC dL_drop_1 (by decide) h1 ?_ ?_
  · refine s_sub (L' := []) [] rfl ?_
    exact s_vret hC hr dL_drop_17 (fun H hH => ⟨rfl, hσ, hH⟩)
  · refine s_aload_n hC dL_drop_4 rfl 1 rfl ?_
    refine s_iload_n hC dL_drop_5 rfl 0 rfl ?_
    refine s_aload_n hC dL_drop_6 rfl 1 rfl ?_
    refine s_aload_n hC dL_drop_7 rfl 2 rfl ?_
    refine s_iconst hC dL_drop_8 ?_
    refine s_dup2 hC dL_drop_9 rfl rfl ?_
    refine s_iaload hC hK (hJ.1 σ) hσ hi3 ha3 dL_drop_10 (fun v1 hv1 => ?_)
    refine s_iconst hC dL_drop_11 ?_
    refine s_isub hC dL_drop_12 ?_
    refine s_dup_x2 hC dL_drop_13 rfl rfl rfl ?_
    refine s_ck0 (fun v2 hv2 => ?_)
    refine s_iastore hC hK hJ (fun _ h => h) hσ hv2 hi3 ha3 dL_drop_14 (fun σ3 hσ3 => ?_)
    refine s_iaload hC hK (hJ.1 σ3) hσ3 hi2 ha2 dL_drop_15 (fun v4 hv4 => ?_)
    refine s_iastore hC hK hJ (fun _ h => h) hσ3 hv4 hi2 ha2 dL_drop_16 (fun σ5 hσ5 => ?_)
    refine s_sub (L' := []) [] rfl ?_
    exact s_vret hC hr dL_drop_17 (fun H hH => ⟨rfl, hσ5, hH⟩)
set_option maxHeartbeats 4000000 in
set_option maxRecDepth 100000 in
theorem m_L_room {l : Launch} {G : Gt} {b : Nat} {σ : Blk} {I : Heap → Prop} (hI : ∀ H, I H → Bk G (layTab G b) 7 b σ H) (hσ : Rg σ) {a1 : Int} (h1 : inR a1) {i2 n2 : Nat} (hi2 : i2 < 7) (ha2 : isA G (layTab G b) i2 n2) {a3 : Int} (h3 : inR a3) : MetS l yL_room cL_room 5 (some .int) { frames := 2, cells := 0, slots := 0, locals := 45 } G [vI a1, .ref (b + i2), vI a3] I (poP I) (fun _ => False) 0 0 (g_L_room σ a1 i2 n2 a3) := by
  refine met_of (by decide) (Nat.le_of_ble_eq_true rfl) ?_
  intro p e s m below meth c hC hKA hr _
  have hK := hKA.1
  unfold g_L_room
  refine s_sub (L' := [(0, vI a1), (1, .ref (b + i2)), (2, vI a3)]) [0, 1, 2] rfl ?_
  refine s_iconst hC dL_room_0 ?_
  refine s_istore_n (L' := [(3, vI 0), (0, vI a1), (1, .ref (b + i2)), (2, vI a3)]) hC dL_room_1 rfl (by decide) rfl ?_
  refine s_sub (L' := [(0, vI a1), (1, .ref (b + i2)), (2, vI a3), (3, vI 0)]) [1, 2, 3, 0] rfl ?_
  refine s_lp_I (F := g_L_room_L2 σ a1 i2 n2 a3) 2 (fun x1 => [(0, vI a1), (1, .ref (b + i2)), (2, vI a3), (3, vI x1)]) (fun _ => rfl) (fun n ih2 x1 hx1 => ?_) fu 0 (inR_c _ rfl)
  rw [g_L_room_L2]
  refine s_iload_n hC dL_room_2 rfl 3 rfl ?_
  refine s_bipush hC dL_room_3 (by decide) ?_
  refine s_icmp_ge (tgt := 59) hC dL_room_5 (by decide) hx1 (inR_c _ rfl) ?_ ?_
  · refine s_sub (L' := []) [] rfl ?_
    refine s_iconst hC dL_room_59 ?_
    exact s_iret hC hr dL_room_60 (fun H hH => ⟨rfl, (inR_c _ rfl), hH⟩)
  · refine s_iload_n hC dL_room_8 rfl 3 rfl ?_
    refine s_aload_n hC dL_room_9 rfl 1 rfl ?_
    refine s_iload_n hC dL_room_10 rfl 2 rfl ?_
    refine s_callS_P (As := [vI x1, .ref (b + i2), vI a3]) (rest := []) hC hKA 3 (m_L_free hI hσ hx1 hi2 ha2 h3) rfl (cb_of hC 3 q_c_yL_free q_i_L q_m_L_16 rfl rfl dd_yL_free ⟨Nat.le_of_ble_eq_true rfl, Nat.le_of_ble_eq_true rfl⟩) q_s_yL_free rfl (Nat.le_of_ble_eq_true rfl) dL_room_11 ⟨Nat.zero_le _, Nat.zero_le _⟩ (fun r2 hr2 => ?_)
    refine s_iload_n hC dL_room_14 rfl 0 rfl ?_
    refine s_icmp_ge (tgt := 21) hC dL_room_15 (by decide) hr2 h1 ?_ ?_
    · refine s_sub (L' := [(1, .ref (b + i2)), (2, vI a3), (3, vI x1)]) [1, 2, 3] rfl ?_
      refine s_iconst hC dL_room_21 ?_
      refine s_istore (L' := [(4, vI 0), (1, .ref (b + i2)), (2, vI a3), (3, vI x1)]) hC dL_room_22 (by decide) rfl ?_
      refine s_sub (L' := [(1, .ref (b + i2)), (2, vI a3), (3, vI x1), (4, vI 0)]) [1, 2, 3, 0] rfl ?_
      refine s_jp_I 45 (fun x4 => [(3, vI x1), (4, vI x4)]) (fun x4 => []) (fun x4 hx4 => ?_) (fun j3 hj3 => ?_)
      · refine s_bipush hC dL_room_45 (by decide) ?_
        refine s_iload_n hC dL_room_47 rfl 0 rfl ?_
        refine s_imul hC dL_room_48 ?_
        refine s_iload hC dL_room_49 1 rfl ?_
        refine s_iadd hC dL_room_51 ?_
        refine s_ck0 (fun v5 hv5 => ?_)
        exact s_iret hC hr dL_room_52 (fun H hH => ⟨rfl, hv5, hH⟩)
      · refine s_lp_I (F := g_L_room_L24 σ i2 n2 a3 x1 j3) 24 (fun x6 => [(1, .ref (b + i2)), (2, vI a3), (3, vI x1), (4, vI x6)]) (fun _ => rfl) (fun n ih24 x6 hx6 => ?_) fu 0 (inR_c _ rfl)
        rw [g_L_room_L24]
        refine s_bipush hC dL_room_24 (by decide) ?_
        refine s_iload_n hC dL_room_26 rfl 2 rfl ?_
        refine s_imul hC dL_room_27 ?_
        refine s_iload hC dL_room_28 3 rfl ?_
        refine s_iadd hC dL_room_30 ?_
        refine s_aload_n hC dL_room_31 rfl 0 rfl ?_
        refine s_iload_n hC dL_room_32 rfl 1 rfl ?_
        refine s_ck2 (fun v7 hv7 => ?_)
        refine s_callS_P (As := [vI v7, .ref (b + i2), vI a3]) (rest := []) hC hKA 3 (m_L_at hI hσ hv7 hi2 ha2 h3) rfl (cb_of hC 3 q_c_yL_at q_i_L q_m_L_20 rfl rfl dd_yL_at ⟨Nat.le_of_ble_eq_true rfl, Nat.le_of_ble_eq_true rfl⟩) q_s_yL_at rfl (Nat.le_of_ble_eq_true rfl) dL_room_33 ⟨Nat.zero_le _, Nat.zero_le _⟩ (fun r8 hr8 => ?_)
        refine s_if_lt (tgt := 45) hC dL_room_36 (by decide) hr8 ?_ ?_
        · refine s_sub (L' := [(3, vI x1), (4, vI x6)]) [2, 3] rfl ?_
          exact hj3 x6 hx6
        · refine s_iincK hC dL_room_39 3 rfl (by decide) (fun v9 => [(4, vI v9), (1, .ref (b + i2)), (2, vI a3), (3, vI x1)]) (fun _ => rfl) (fun v9 hv9 => ?_)
          refine s_goto (tgt := 24) hC dL_room_42 (by decide) ?_
          refine s_sub (L' := [(1, .ref (b + i2)), (2, vI a3), (3, vI x1), (4, vI v9)]) [1, 2, 3, 0] rfl ?_
          exact ih24 v9 hv9
    · refine s_goto (tgt := 53) hC dL_room_18 (by decide) ?_
      refine s_iincK hC dL_room_53 3 rfl (by decide) (fun v10 => [(3, vI v10), (0, vI a1), (1, .ref (b + i2)), (2, vI a3)]) (fun _ => rfl) (fun v10 hv10 => ?_)
      refine s_goto (tgt := 2) hC dL_room_56 (by decide) ?_
      refine s_sub (L' := [(0, vI a1), (1, .ref (b + i2)), (2, vI a3), (3, vI v10)]) [1, 2, 3, 0] rfl ?_
      exact ih2 v10 hv10
set_option maxHeartbeats 4000000 in
set_option maxRecDepth 100000 in
theorem m_L_write {l : Launch} {G : Gt} {b : Nat} {σ : Blk} {J : Blk → Heap → Prop} (hJ : Wd G (layTab G b) 7 b J) (hσ : Rg σ) {a1 : Int} (h1 : inR a1) {a2 : Int} (h2 : inR a2) {a3 : Int} (h3 : inR a3) {i4 n4 : Nat} (hi4 : i4 < 7) (ha4 : isA G (layTab G b) i4 n4) {i5 n5 : Nat} (hi5 : i5 < 7) (ha5 : isA G (layTab G b) i5 n5) {i6 n6 : Nat} (hi6 : i6 < 7) (ha6 : isA G (layTab G b) i6 n6) : MetS l yL_write cL_write 13 (some .boolean) { frames := 3, cells := 0, slots := 0, locals := 69 } G [vI a1, vI a2, vI a3, .ref (b + i4), .ref (b + i5), .ref (b + i6)] (J σ) (poW J) (Ab b 7) 0 0 (g_L_write σ a1 a2 a3 i4 n4 i5 n5 i6 n6) := by
  refine met_of (by decide) (Nat.le_of_ble_eq_true rfl) ?_
  intro p e s m below meth c hC hKA hr _
  have hK := hKA.1
  unfold g_L_write
  refine s_sub (L' := [(0, vI a1), (1, vI a2), (2, vI a3), (3, .ref (b + i4)), (4, .ref (b + i5)), (5, .ref (b + i6))]) [0, 1, 2, 3, 4, 5] rfl ?_
  refine s_iload_n hC dL_write_0 rfl 1 rfl ?_
  refine s_aload_n hC dL_write_1 rfl 3 rfl ?_
  refine s_iconst hC dL_write_2 ?_
  refine s_iaload hC hK (hJ.1 σ) hσ hi4 ha4 dL_write_3 (fun v1 hv1 => ?_)
  refine s_jp_I 14 (fun x3 => [(0, vI a1), (1, vI a2), (2, vI a3), (3, .ref (b + i4)), (4, .ref (b + i5)), (5, .ref (b + i6))]) (fun x3 => [vI x3]) (fun x3 hx3 => ?_) (fun j2 hj2 => ?_)
  · refine s_istore (L' := [(6, vI x3), (0, vI a1), (1, vI a2), (2, vI a3), (3, .ref (b + i4)), (4, .ref (b + i5)), (5, .ref (b + i6))]) hC dL_write_14 (by decide) rfl ?_
    refine s_iconst hC dL_write_16 ?_
    refine s_iload_n hC dL_write_17 rfl 1 rfl ?_
    refine s_imul hC dL_write_18 ?_
    refine s_ck0 (fun v4 hv4 => ?_)
    refine s_istore (L' := [(7, vI v4), (6, vI x3), (0, vI a1), (1, vI a2), (2, vI a3), (3, .ref (b + i4)), (4, .ref (b + i5)), (5, .ref (b + i6))]) hC dL_write_19 (by decide) rfl ?_
    refine s_iload_n hC dL_write_21 rfl 4 rfl ?_
    refine s_jp_IB (J := J) 258 (fun x6 => [(0, vI a1), (1, vI a2), (3, .ref (b + i4)), (4, .ref (b + i5)), (5, .ref (b + i6)), (6, vI x3), (7, vI v4), (8, vI x6)]) (fun x6 => []) (fun x6 σ7 hx6 hσ7 => ?_) (fun j5 hj5 => ?_)
    · refine s_iload hC dL_write_258 7 rfl ?_
      refine s_if_ge (tgt := 265) hC dL_write_260 (by decide) hx6 ?_ ?_
      · refine s_iload hC dL_write_265 7 rfl ?_
        refine s_iconst hC dL_write_267 ?_
        refine s_iload_n hC dL_write_268 rfl 0 rfl ?_
        refine s_iconst hC dL_write_269 ?_
        refine s_iload hC dL_write_270 5 rfl ?_
        refine s_aload hC dL_write_272 4 rfl ?_
        refine s_aload_n hC dL_write_274 rfl 2 rfl ?_
        refine s_callS_U (As := [vI x6, vI 1, vI a1, vI 0, vI x3, .ref (b + i6), .ref (b + i4)]) (rest := []) hC hKA 7 (m_L_add hJ hσ7 hx6 (inR_c _ rfl) h1 (inR_c _ rfl) hx3 hi6 ha6 hi4 ha4) (fun _ h => h) rfl (cb_of hC 7 q_c_yL_add q_i_L q_m_L_34 rfl rfl dd_yL_add ⟨Nat.le_of_ble_eq_true rfl, Nat.le_of_ble_eq_true rfl⟩) q_s_yL_add rfl (Nat.le_of_ble_eq_true rfl) dL_write_275 ⟨Nat.zero_le _, Nat.zero_le _⟩ (fun σ8 hσ8 => ?_)
        refine s_aload hC dL_write_278 3 rfl ?_
        refine s_iload hC dL_write_280 6 rfl ?_
        refine s_iconst hC dL_write_282 ?_
        refine s_iadd hC dL_write_283 ?_
        refine s_iload_n hC dL_write_284 rfl 1 rfl ?_
        refine s_iastore hC hK hJ (fun _ h => h) hσ8 h2 hi5 ha5 dL_write_285 (fun σ9 hσ9 => ?_)
        refine s_aload hC dL_write_286 3 rfl ?_
        refine s_iload hC dL_write_288 6 rfl ?_
        refine s_iconst hC dL_write_290 ?_
        refine s_iadd hC dL_write_291 ?_
        refine s_iload hC dL_write_292 7 rfl ?_
        refine s_iastore hC hK hJ (fun _ h => h) hσ9 hx6 hi5 ha5 dL_write_294 (fun σ10 hσ10 => ?_)
        refine s_iconst hC dL_write_295 ?_
        refine s_istore (L' := [(9, vI 0), (0, vI a1), (1, vI a2), (3, .ref (b + i4)), (4, .ref (b + i5)), (5, .ref (b + i6)), (6, vI x3), (7, vI v4), (8, vI x6)]) hC dL_write_296 (by decide) rfl ?_
        refine s_iload_n hC dL_write_298 rfl 2 rfl ?_
        refine s_iload hC dL_write_299 6 rfl ?_
        refine s_isub hC dL_write_301 ?_
        refine s_ck0 (fun v11 hv11 => ?_)
        refine s_istore (L' := [(10, vI v11), (9, vI 0), (0, vI a1), (1, vI a2), (3, .ref (b + i4)), (4, .ref (b + i5)), (5, .ref (b + i6)), (6, vI x3), (7, vI v4), (8, vI x6)]) hC dL_write_302 (by decide) rfl ?_
        refine s_sub (L' := [(0, vI a1), (3, .ref (b + i4)), (5, .ref (b + i6)), (9, vI 0), (10, vI v11)]) [2, 4, 6, 1, 0] rfl ?_
        refine s_lp_IIB (J := J) (F := g_L_write_L304 a1 i4 n4 i6 n6) 304 (fun x12 x13 => [(0, vI a1), (3, .ref (b + i4)), (5, .ref (b + i6)), (9, vI x12), (10, vI x13)]) (fun _ _ _ => rfl) (fun n ih304 x12 x13 σ14 hx12 hx13 hσ14 => ?_) fu 0 v11 σ10 (inR_c _ rfl) hv11 hσ10
        rw [g_L_write_L304]
        refine s_iload hC dL_write_304 4 rfl ?_
        refine s_if_le (tgt := 376) hC dL_write_306 (by decide) hx13 ?_ ?_
        · refine s_sub (L' := []) [] rfl ?_
          refine s_iconst hC dL_write_376 ?_
          exact s_zret hC hr (Or.inr rfl) dL_write_377 (fun H hH => ⟨rfl, (inR_c _ rfl), hσ14, hH⟩)
        · refine s_iload hC dL_write_309 4 rfl ?_
          refine s_aload_n hC dL_write_311 rfl 1 rfl ?_
          refine s_iconst hC dL_write_312 ?_
          refine s_iaload hC hK (hJ.1 σ14) hσ14 hi4 ha4 dL_write_313 (fun v15 hv15 => ?_)
          refine s_jp_I 325 (fun x17 => [(0, vI a1), (3, .ref (b + i4)), (5, .ref (b + i6)), (9, vI x12), (10, vI x13)]) (fun x17 => [vI x17]) (fun x17 hx17 => ?_) (fun j16 hj16 => ?_)
          · refine s_istore (L' := [(11, vI x17), (0, vI a1), (3, .ref (b + i4)), (5, .ref (b + i6)), (9, vI x12), (10, vI x13)]) hC dL_write_325 (by decide) rfl ?_
            refine s_iconst hC dL_write_327 ?_
            refine s_iload hC dL_write_328 0 rfl ?_
            refine s_iadd hC dL_write_330 ?_
            refine s_aload hC dL_write_331 3 rfl ?_
            refine s_aload_n hC dL_write_333 rfl 2 rfl ?_
            refine s_iconst hC dL_write_334 ?_
            refine s_iaload hC hK (hJ.1 σ14) hσ14 hi4 ha4 dL_write_335 (fun v18 hv18 => ?_)
            refine s_ck2 (fun v19 hv19 => ?_)
            refine s_callS_P (As := [vI v19, .ref (b + i6), vI v18]) (rest := []) hC hKA 3 (m_L_room (hJ.1 σ14) hσ14 hv19 hi6 ha6 hv18) rfl (cb_of hC 3 q_c_yL_room q_i_L q_m_L_23 rfl rfl dd_yL_room ⟨Nat.le_of_ble_eq_true rfl, Nat.le_of_ble_eq_true rfl⟩) q_s_yL_room rfl (Nat.le_of_ble_eq_true rfl) dL_write_336 ⟨Nat.zero_le _, Nat.zero_le _⟩ (fun r20 hr20 => ?_)
            refine s_istore (L' := [(12, vI r20), (11, vI x17), (0, vI a1), (3, .ref (b + i4)), (5, .ref (b + i6)), (9, vI x12), (10, vI x13)]) hC dL_write_339 (by decide) rfl ?_
            refine s_iload hC dL_write_341 0 rfl ?_
            refine s_if_ge (tgt := 348) hC dL_write_343 (by decide) hr20 ?_ ?_
            · refine s_sub (L' := [(0, vI a1), (3, .ref (b + i4)), (5, .ref (b + i6)), (9, vI x12), (10, vI x13), (11, vI x17), (12, vI r20)]) [2, 3, 4, 5, 6, 1, 0] rfl ?_
              refine s_iload hC dL_write_348 6 rfl ?_
              refine s_iconst hC dL_write_350 ?_
              refine s_iload_n hC dL_write_351 rfl 0 rfl ?_
              refine s_iload hC dL_write_352 3 rfl ?_
              refine s_iincK hC dL_write_354 3 rfl (by decide) (fun v21 => [(9, vI v21), (0, vI a1), (3, .ref (b + i4)), (5, .ref (b + i6)), (10, vI x13), (11, vI x17), (12, vI r20)]) (fun _ => rfl) (fun v21 hv21 => ?_)
              refine s_iload hC dL_write_357 5 rfl ?_
              refine s_aload hC dL_write_359 3 rfl ?_
              refine s_aload_n hC dL_write_361 rfl 2 rfl ?_
              refine s_callS_U (As := [vI r20, vI 2, vI a1, vI x12, vI x17, .ref (b + i6), .ref (b + i4)]) (rest := []) hC hKA 7 (m_L_add hJ hσ14 hr20 (inR_c _ rfl) h1 hx12 hx17 hi6 ha6 hi4 ha4) (fun _ h => h) rfl (cb_of hC 7 q_c_yL_add q_i_L q_m_L_34 rfl rfl dd_yL_add ⟨Nat.le_of_ble_eq_true rfl, Nat.le_of_ble_eq_true rfl⟩) q_s_yL_add rfl (Nat.le_of_ble_eq_true rfl) dL_write_362 ⟨Nat.zero_le _, Nat.zero_le _⟩ (fun σ22 hσ22 => ?_)
              refine s_iload hC dL_write_365 4 rfl ?_
              refine s_aload_n hC dL_write_367 rfl 2 rfl ?_
              refine s_iconst hC dL_write_368 ?_
              refine s_iaload hC hK (hJ.1 σ22) hσ22 hi4 ha4 dL_write_369 (fun v23 hv23 => ?_)
              refine s_isub hC dL_write_370 ?_
              refine s_ck0 (fun v24 hv24 => ?_)
              refine s_istore (L' := [(10, vI v24), (9, vI v21), (0, vI a1), (3, .ref (b + i4)), (5, .ref (b + i6)), (11, vI x17), (12, vI r20)]) hC dL_write_371 (by decide) rfl ?_
              refine s_goto (tgt := 304) hC dL_write_373 (by decide) ?_
              refine s_sub (L' := [(0, vI a1), (3, .ref (b + i4)), (5, .ref (b + i6)), (9, vI v21), (10, vI v24)]) [2, 3, 4, 1, 0] rfl ?_
              exact ih304 v21 v24 σ22 hv21 hv24 hσ22
            · refine s_sub (L' := []) [] rfl ?_
              refine s_iconst hC dL_write_346 ?_
              exact s_zret hC hr (Or.inl rfl) dL_write_347 (fun H hH => ⟨rfl, (inR_c _ rfl), hσ14, hH⟩)
          · refine s_icmp_ge (tgt := 322) hC dL_write_314 (by decide) hx13 hv15 ?_ ?_
            · refine s_aload_n hC dL_write_322 rfl 1 rfl ?_
              refine s_iconst hC dL_write_323 ?_
              refine s_iaload hC hK (hJ.1 σ14) hσ14 hi4 ha4 dL_write_324 (fun v25 hv25 => ?_)
              exact hj16 v25 hv25
            · refine s_iload hC dL_write_317 4 rfl ?_
              refine s_goto (tgt := 325) hC dL_write_319 (by decide) ?_
              exact hj16 x13 hx13
      · refine s_sub (L' := []) [] rfl ?_
        refine s_iconst hC dL_write_263 ?_
        exact s_zret hC hr (Or.inl rfl) dL_write_264 (fun H hH => ⟨rfl, (inR_c _ rfl), hσ7, hH⟩)
    · refine s_if_eq (tgt := 51) hC dL_write_22 (by decide) h3 ?_ ?_
      · refine s_sub (L' := [(0, vI a1), (1, vI a2), (3, .ref (b + i4)), (4, .ref (b + i5)), (5, .ref (b + i6)), (6, vI x3), (7, vI v4)]) [2, 3, 5, 6, 7, 1, 0] rfl ?_
        refine s_iconst hC dL_write_51 ?_
        refine s_istore (L' := [(9, vI 0), (0, vI a1), (1, vI a2), (3, .ref (b + i4)), (4, .ref (b + i5)), (5, .ref (b + i6)), (6, vI x3), (7, vI v4)]) hC dL_write_52 (by decide) rfl ?_
        refine s_sub (L' := [(0, vI a1), (1, vI a2), (3, .ref (b + i4)), (4, .ref (b + i5)), (5, .ref (b + i6)), (6, vI x3), (7, vI v4), (9, vI 0)]) [1, 2, 3, 4, 5, 6, 7, 0] rfl ?_
        refine s_jp_B (J := J) 85 ([(0, vI a1), (1, vI a2), (3, .ref (b + i4)), (4, .ref (b + i5)), (5, .ref (b + i6)), (6, vI x3), (7, vI v4)]) ([]) (fun σ27 hσ27 => ?_) (fun j26 hj26 => ?_)
        · refine s_iconst hC dL_write_85 ?_
          refine s_iload_n hC dL_write_86 rfl 0 rfl ?_
          refine s_iconst hC dL_write_87 ?_
          refine s_aload hC dL_write_88 4 rfl ?_
          refine s_aload_n hC dL_write_90 rfl 2 rfl ?_
          refine s_iconst hC dL_write_91 ?_
          refine s_iaload hC hK (hJ.1 σ27) hσ27 hi4 ha4 dL_write_92 (fun v28 hv28 => ?_)
          refine s_callS_P (As := [vI 1, vI a1, vI 0, .ref (b + i6), vI v28]) (rest := []) hC hKA 5 (m_L_find (hJ.1 σ27) hσ27 (inR_c _ rfl) h1 (inR_c _ rfl) hi6 ha6 hv28) rfl (cb_of hC 5 q_c_yL_find q_i_L q_m_L_26 rfl rfl dd_yL_find ⟨Nat.le_of_ble_eq_true rfl, Nat.le_of_ble_eq_true rfl⟩) q_s_yL_find rfl (Nat.le_of_ble_eq_true rfl) dL_write_93 ⟨Nat.zero_le _, Nat.zero_le _⟩ (fun r29 hr29 => ?_)
          refine s_aload hC dL_write_96 4 rfl ?_
          refine s_aload_n hC dL_write_98 rfl 2 rfl ?_
          refine s_callS_U (As := [vI r29, .ref (b + i6), .ref (b + i4)]) (rest := []) hC hKA 3 (m_L_drop hJ hσ27 hr29 hi6 ha6 hi4 ha4) (fun _ h => h) rfl (cb_of hC 3 q_c_yL_drop q_i_L q_m_L_30 rfl rfl dd_yL_drop ⟨Nat.le_of_ble_eq_true rfl, Nat.le_of_ble_eq_true rfl⟩) q_s_yL_drop rfl (Nat.le_of_ble_eq_true rfl) dL_write_99 ⟨Nat.zero_le _, Nat.zero_le _⟩ (fun σ30 hσ30 => ?_)
          refine s_aload hC dL_write_102 3 rfl ?_
          refine s_iload hC dL_write_104 6 rfl ?_
          refine s_iconst hC dL_write_106 ?_
          refine s_iadd hC dL_write_107 ?_
          refine s_iaload hC hK (hJ.1 σ30) hσ30 hi5 ha5 dL_write_108 (fun v31 hv31 => ?_)
          refine s_bipush hC dL_write_109 (by decide) ?_
          refine s_idiv hC dL_write_111 hv31 (inR_c _ rfl) (by decide) (fun v32 hv32 => ?_)
          refine s_aload hC dL_write_112 4 rfl ?_
          refine s_aload_n hC dL_write_114 rfl 2 rfl ?_
          refine s_iconst hC dL_write_115 ?_
          refine s_iaload hC hK (hJ.1 σ30) hσ30 hi4 ha4 dL_write_116 (fun v33 hv33 => ?_)
          refine s_callS_P (As := [vI v32, .ref (b + i6), vI v33]) (rest := []) hC hKA 3 (m_L_free (hJ.1 σ30) hσ30 hv32 hi6 ha6 hv33) rfl (cb_of hC 3 q_c_yL_free q_i_L q_m_L_16 rfl rfl dd_yL_free ⟨Nat.le_of_ble_eq_true rfl, Nat.le_of_ble_eq_true rfl⟩) q_s_yL_free rfl (Nat.le_of_ble_eq_true rfl) dL_write_117 ⟨Nat.zero_le _, Nat.zero_le _⟩ (fun r34 hr34 => ?_)
          refine s_iconst hC dL_write_120 ?_
          refine s_iload hC dL_write_121 5 rfl ?_
          refine s_iadd hC dL_write_123 ?_
          refine s_ck0 (fun v35 hv35 => ?_)
          refine s_icmp_lt (tgt := 139) hC dL_write_124 (by decide) hr34 hv35 ?_ ?_
          · refine s_aload hC dL_write_139 3 rfl ?_
            refine s_iload hC dL_write_141 6 rfl ?_
            refine s_iconst hC dL_write_143 ?_
            refine s_iadd hC dL_write_144 ?_
            refine s_iaload hC hK (hJ.1 σ30) hσ30 hi5 ha5 dL_write_145 (fun v36 hv36 => ?_)
            refine s_aload hC dL_write_146 3 rfl ?_
            refine s_iload hC dL_write_148 6 rfl ?_
            refine s_iconst hC dL_write_150 ?_
            refine s_iadd hC dL_write_151 ?_
            refine s_iaload hC hK (hJ.1 σ30) hσ30 hi5 ha5 dL_write_152 (fun v37 hv37 => ?_)
            refine s_icmp_ne (tgt := 190) hC dL_write_153 (by decide) hv36 hv37 ?_ ?_
            · refine s_aload hC dL_write_190 3 rfl ?_
              refine s_iload hC dL_write_192 6 rfl ?_
              refine s_iconst hC dL_write_194 ?_
              refine s_iadd hC dL_write_195 ?_
              refine s_iaload hC hK (hJ.1 σ30) hσ30 hi5 ha5 dL_write_196 (fun v38 hv38 => ?_)
              refine s_bipush hC dL_write_197 (by decide) ?_
              refine s_idiv hC dL_write_199 hv38 (inR_c _ rfl) (by decide) (fun v39 hv39 => ?_)
              refine s_aload hC dL_write_200 4 rfl ?_
              refine s_aload_n hC dL_write_202 rfl 2 rfl ?_
              refine s_iconst hC dL_write_203 ?_
              refine s_iaload hC hK (hJ.1 σ30) hσ30 hi4 ha4 dL_write_204 (fun v40 hv40 => ?_)
              refine s_callS_P (As := [vI v39, .ref (b + i6), vI v40]) (rest := []) hC hKA 3 (m_L_free (hJ.1 σ30) hσ30 hv39 hi6 ha6 hv40) rfl (cb_of hC 3 q_c_yL_free q_i_L q_m_L_16 rfl rfl dd_yL_free ⟨Nat.le_of_ble_eq_true rfl, Nat.le_of_ble_eq_true rfl⟩) q_s_yL_free rfl (Nat.le_of_ble_eq_true rfl) dL_write_205 ⟨Nat.zero_le _, Nat.zero_le _⟩ (fun r41 hr41 => ?_)
              refine s_iconst hC dL_write_208 ?_
              refine s_iload hC dL_write_209 5 rfl ?_
              refine s_iadd hC dL_write_211 ?_
              refine s_ck0 (fun v42 hv42 => ?_)
              refine s_icmp_lt (tgt := 244) hC dL_write_212 (by decide) hr41 hv42 ?_ ?_
              · refine s_iconst hC dL_write_244 ?_
                refine s_iload hC dL_write_245 5 rfl ?_
                refine s_iadd hC dL_write_247 ?_
                refine s_aload hC dL_write_248 4 rfl ?_
                refine s_aload_n hC dL_write_250 rfl 2 rfl ?_
                refine s_iconst hC dL_write_251 ?_
                refine s_iaload hC hK (hJ.1 σ30) hσ30 hi4 ha4 dL_write_252 (fun v43 hv43 => ?_)
                refine s_ck2 (fun v44 hv44 => ?_)
                refine s_callS_P (As := [vI v44, .ref (b + i6), vI v43]) (rest := []) hC hKA 3 (m_L_room (hJ.1 σ30) hσ30 hv44 hi6 ha6 hv43) rfl (cb_of hC 3 q_c_yL_room q_i_L q_m_L_23 rfl rfl dd_yL_room ⟨Nat.le_of_ble_eq_true rfl, Nat.le_of_ble_eq_true rfl⟩) q_s_yL_room rfl (Nat.le_of_ble_eq_true rfl) dL_write_253 ⟨Nat.zero_le _, Nat.zero_le _⟩ (fun r45 hr45 => ?_)
                refine s_istore (L' := [(8, vI r45), (0, vI a1), (1, vI a2), (3, .ref (b + i4)), (4, .ref (b + i5)), (5, .ref (b + i6)), (6, vI x3), (7, vI v4)]) hC dL_write_256 (by decide) rfl ?_
                refine s_sub (L' := [(0, vI a1), (1, vI a2), (3, .ref (b + i4)), (4, .ref (b + i5)), (5, .ref (b + i6)), (6, vI x3), (7, vI v4), (8, vI r45)]) [1, 2, 3, 4, 5, 6, 7, 0] rfl ?_
                exact hj5 r45 σ30 hr45 hσ30
              · refine s_iconst hC dL_write_215 ?_
                refine s_iload_n hC dL_write_216 rfl 0 rfl ?_
                refine s_iconst hC dL_write_217 ?_
                refine s_aload hC dL_write_218 4 rfl ?_
                refine s_aload_n hC dL_write_220 rfl 2 rfl ?_
                refine s_iconst hC dL_write_221 ?_
                refine s_iaload hC hK (hJ.1 σ30) hσ30 hi4 ha4 dL_write_222 (fun v46 hv46 => ?_)
                refine s_callS_P (As := [vI 3, vI a1, vI 0, .ref (b + i6), vI v46]) (rest := []) hC hKA 5 (m_L_find (hJ.1 σ30) hσ30 (inR_c _ rfl) h1 (inR_c _ rfl) hi6 ha6 hv46) rfl (cb_of hC 5 q_c_yL_find q_i_L q_m_L_26 rfl rfl dd_yL_find ⟨Nat.le_of_ble_eq_true rfl, Nat.le_of_ble_eq_true rfl⟩) q_s_yL_find rfl (Nat.le_of_ble_eq_true rfl) dL_write_223 ⟨Nat.zero_le _, Nat.zero_le _⟩ (fun r47 hr47 => ?_)
                refine s_aload hC dL_write_226 4 rfl ?_
                refine s_aload_n hC dL_write_228 rfl 2 rfl ?_
                refine s_callS_U (As := [vI r47, .ref (b + i6), .ref (b + i4)]) (rest := []) hC hKA 3 (m_L_drop hJ hσ30 hr47 hi6 ha6 hi4 ha4) (fun _ h => h) rfl (cb_of hC 3 q_c_yL_drop q_i_L q_m_L_30 rfl rfl dd_yL_drop ⟨Nat.le_of_ble_eq_true rfl, Nat.le_of_ble_eq_true rfl⟩) q_s_yL_drop rfl (Nat.le_of_ble_eq_true rfl) dL_write_229 ⟨Nat.zero_le _, Nat.zero_le _⟩ (fun σ48 hσ48 => ?_)
                refine s_aload hC dL_write_232 3 rfl ?_
                refine s_iload hC dL_write_234 6 rfl ?_
                refine s_iconst hC dL_write_236 ?_
                refine s_iadd hC dL_write_237 ?_
                refine s_iaload hC hK (hJ.1 σ48) hσ48 hi5 ha5 dL_write_238 (fun v49 hv49 => ?_)
                refine s_istore (L' := [(8, vI v49), (0, vI a1), (1, vI a2), (3, .ref (b + i4)), (4, .ref (b + i5)), (5, .ref (b + i6)), (6, vI x3), (7, vI v4)]) hC dL_write_239 (by decide) rfl ?_
                refine s_goto (tgt := 258) hC dL_write_241 (by decide) ?_
                refine s_sub (L' := [(0, vI a1), (1, vI a2), (3, .ref (b + i4)), (4, .ref (b + i5)), (5, .ref (b + i6)), (6, vI x3), (7, vI v4), (8, vI v49)]) [1, 2, 3, 4, 5, 6, 7, 0] rfl ?_
                exact hj5 v49 σ48 hv49 hσ48
            · refine s_aload hC dL_write_156 3 rfl ?_
              refine s_iload hC dL_write_158 6 rfl ?_
              refine s_iconst hC dL_write_160 ?_
              refine s_iadd hC dL_write_161 ?_
              refine s_iaload hC hK (hJ.1 σ30) hσ30 hi5 ha5 dL_write_162 (fun v50 hv50 => ?_)
              refine s_iconst hC dL_write_163 ?_
              refine s_iload_n hC dL_write_164 rfl 0 rfl ?_
              refine s_iconst hC dL_write_165 ?_
              refine s_iconst hC dL_write_166 ?_
              refine s_aload hC dL_write_167 4 rfl ?_
              refine s_aload_n hC dL_write_169 rfl 2 rfl ?_
              refine s_callS_U (As := [vI v50, vI 3, vI a1, vI 0, vI 0, .ref (b + i6), .ref (b + i4)]) (rest := []) hC hKA 7 (m_L_add hJ hσ30 hv50 (inR_c _ rfl) h1 (inR_c _ rfl) (inR_c _ rfl) hi6 ha6 hi4 ha4) (fun _ h => h) rfl (cb_of hC 7 q_c_yL_add q_i_L q_m_L_34 rfl rfl dd_yL_add ⟨Nat.le_of_ble_eq_true rfl, Nat.le_of_ble_eq_true rfl⟩) q_s_yL_add rfl (Nat.le_of_ble_eq_true rfl) dL_write_170 ⟨Nat.zero_le _, Nat.zero_le _⟩ (fun σ51 hσ51 => ?_)
              refine s_iconst hC dL_write_173 ?_
              refine s_iload hC dL_write_174 5 rfl ?_
              refine s_iadd hC dL_write_176 ?_
              refine s_aload hC dL_write_177 4 rfl ?_
              refine s_aload_n hC dL_write_179 rfl 2 rfl ?_
              refine s_iconst hC dL_write_180 ?_
              refine s_iaload hC hK (hJ.1 σ51) hσ51 hi4 ha4 dL_write_181 (fun v52 hv52 => ?_)
              refine s_ck2 (fun v53 hv53 => ?_)
              refine s_callS_P (As := [vI v53, .ref (b + i6), vI v52]) (rest := []) hC hKA 3 (m_L_room (hJ.1 σ51) hσ51 hv53 hi6 ha6 hv52) rfl (cb_of hC 3 q_c_yL_room q_i_L q_m_L_23 rfl rfl dd_yL_room ⟨Nat.le_of_ble_eq_true rfl, Nat.le_of_ble_eq_true rfl⟩) q_s_yL_room rfl (Nat.le_of_ble_eq_true rfl) dL_write_182 ⟨Nat.zero_le _, Nat.zero_le _⟩ (fun r54 hr54 => ?_)
              refine s_istore (L' := [(8, vI r54), (0, vI a1), (1, vI a2), (3, .ref (b + i4)), (4, .ref (b + i5)), (5, .ref (b + i6)), (6, vI x3), (7, vI v4)]) hC dL_write_185 (by decide) rfl ?_
              refine s_goto (tgt := 258) hC dL_write_187 (by decide) ?_
              refine s_sub (L' := [(0, vI a1), (1, vI a2), (3, .ref (b + i4)), (4, .ref (b + i5)), (5, .ref (b + i6)), (6, vI x3), (7, vI v4), (8, vI r54)]) [1, 2, 3, 4, 5, 6, 7, 0] rfl ?_
              exact hj5 r54 σ51 hr54 hσ51
          · refine s_aload hC dL_write_127 3 rfl ?_
            refine s_iload hC dL_write_129 6 rfl ?_
            refine s_iconst hC dL_write_131 ?_
            refine s_iadd hC dL_write_132 ?_
            refine s_iaload hC hK (hJ.1 σ30) hσ30 hi5 ha5 dL_write_133 (fun v55 hv55 => ?_)
            refine s_istore (L' := [(8, vI v55), (0, vI a1), (1, vI a2), (3, .ref (b + i4)), (4, .ref (b + i5)), (5, .ref (b + i6)), (6, vI x3), (7, vI v4)]) hC dL_write_134 (by decide) rfl ?_
            refine s_goto (tgt := 258) hC dL_write_136 (by decide) ?_
            refine s_sub (L' := [(0, vI a1), (1, vI a2), (3, .ref (b + i4)), (4, .ref (b + i5)), (5, .ref (b + i6)), (6, vI x3), (7, vI v4), (8, vI v55)]) [1, 2, 3, 4, 5, 6, 7, 0] rfl ?_
            exact hj5 v55 σ30 hv55 hσ30
        · refine s_lp_IB (J := J) (F := g_L_write_L54 a1 i4 n4 i6 n6 j26) 54 (fun x56 => [(0, vI a1), (1, vI a2), (3, .ref (b + i4)), (4, .ref (b + i5)), (5, .ref (b + i6)), (6, vI x3), (7, vI v4), (9, vI x56)]) (fun _ _ => rfl) (fun n ih54 x56 σ57 hx56 hσ57 => ?_) fu 0 σ (inR_c _ rfl) hσ
          rw [g_L_write_L54]
          refine s_iload hC dL_write_54 7 rfl ?_
          refine s_bipush hC dL_write_56 (by decide) ?_
          refine s_icmp_ge (tgt := 85) hC dL_write_58 (by decide) hx56 (inR_c _ rfl) ?_ ?_
          · refine s_sub (L' := [(0, vI a1), (1, vI a2), (3, .ref (b + i4)), (4, .ref (b + i5)), (5, .ref (b + i6)), (6, vI x3), (7, vI v4)]) [0, 1, 2, 3, 4, 5, 6] rfl ?_
            exact hj26 σ57 hσ57
          · refine s_iconst hC dL_write_61 ?_
            refine s_iload_n hC dL_write_62 rfl 0 rfl ?_
            refine s_iload hC dL_write_63 7 rfl ?_
            refine s_aload hC dL_write_65 4 rfl ?_
            refine s_aload_n hC dL_write_67 rfl 2 rfl ?_
            refine s_iconst hC dL_write_68 ?_
            refine s_iaload hC hK (hJ.1 σ57) hσ57 hi4 ha4 dL_write_69 (fun v58 hv58 => ?_)
            refine s_callS_P (As := [vI 2, vI a1, vI x56, .ref (b + i6), vI v58]) (rest := []) hC hKA 5 (m_L_find (hJ.1 σ57) hσ57 (inR_c _ rfl) h1 hx56 hi6 ha6 hv58) rfl (cb_of hC 5 q_c_yL_find q_i_L q_m_L_26 rfl rfl dd_yL_find ⟨Nat.le_of_ble_eq_true rfl, Nat.le_of_ble_eq_true rfl⟩) q_s_yL_find rfl (Nat.le_of_ble_eq_true rfl) dL_write_70 ⟨Nat.zero_le _, Nat.zero_le _⟩ (fun r59 hr59 => ?_)
            refine s_aload hC dL_write_73 4 rfl ?_
            refine s_aload_n hC dL_write_75 rfl 2 rfl ?_
            refine s_callS_U (As := [vI r59, .ref (b + i6), .ref (b + i4)]) (rest := []) hC hKA 3 (m_L_drop hJ hσ57 hr59 hi6 ha6 hi4 ha4) (fun _ h => h) rfl (cb_of hC 3 q_c_yL_drop q_i_L q_m_L_30 rfl rfl dd_yL_drop ⟨Nat.le_of_ble_eq_true rfl, Nat.le_of_ble_eq_true rfl⟩) q_s_yL_drop rfl (Nat.le_of_ble_eq_true rfl) dL_write_76 ⟨Nat.zero_le _, Nat.zero_le _⟩ (fun σ60 hσ60 => ?_)
            refine s_iincK hC dL_write_79 7 rfl (by decide) (fun v61 => [(9, vI v61), (0, vI a1), (1, vI a2), (3, .ref (b + i4)), (4, .ref (b + i5)), (5, .ref (b + i6)), (6, vI x3), (7, vI v4)]) (fun _ => rfl) (fun v61 hv61 => ?_)
            refine s_goto (tgt := 54) hC dL_write_82 (by decide) ?_
            refine s_sub (L' := [(0, vI a1), (1, vI a2), (3, .ref (b + i4)), (4, .ref (b + i5)), (5, .ref (b + i6)), (6, vI x3), (7, vI v4), (9, vI v61)]) [1, 2, 3, 4, 5, 6, 7, 0] rfl ?_
            exact ih54 v61 σ60 hv61 hσ60
      · refine s_sub (L' := [(0, vI a1), (1, vI a2), (3, .ref (b + i4)), (4, .ref (b + i5)), (5, .ref (b + i6)), (6, vI x3), (7, vI v4)]) [2, 3, 5, 6, 7, 1, 0] rfl ?_
        refine s_iconst hC dL_write_25 ?_
        refine s_iload hC dL_write_26 5 rfl ?_
        refine s_iadd hC dL_write_28 ?_
        refine s_aload hC dL_write_29 4 rfl ?_
        refine s_aload_n hC dL_write_31 rfl 2 rfl ?_
        refine s_iconst hC dL_write_32 ?_
        refine s_iaload hC hK (hJ.1 σ) hσ hi4 ha4 dL_write_33 (fun v62 hv62 => ?_)
        refine s_ck2 (fun v63 hv63 => ?_)
        refine s_callS_P (As := [vI v63, .ref (b + i6), vI v62]) (rest := []) hC hKA 3 (m_L_room (hJ.1 σ) hσ hv63 hi6 ha6 hv62) rfl (cb_of hC 3 q_c_yL_room q_i_L q_m_L_23 rfl rfl dd_yL_room ⟨Nat.le_of_ble_eq_true rfl, Nat.le_of_ble_eq_true rfl⟩) q_s_yL_room rfl (Nat.le_of_ble_eq_true rfl) dL_write_34 ⟨Nat.zero_le _, Nat.zero_le _⟩ (fun r64 hr64 => ?_)
        refine s_istore (L' := [(8, vI r64), (0, vI a1), (1, vI a2), (3, .ref (b + i4)), (4, .ref (b + i5)), (5, .ref (b + i6)), (6, vI x3), (7, vI v4)]) hC dL_write_37 (by decide) rfl ?_
        refine s_aload hC dL_write_39 4 rfl ?_
        refine s_iload hC dL_write_41 7 rfl ?_
        refine s_iconst hC dL_write_43 ?_
        refine s_iadd hC dL_write_44 ?_
        refine s_iload hC dL_write_45 0 rfl ?_
        refine s_iastore hC hK hJ (fun _ h => h) hσ hr64 hi5 ha5 dL_write_47 (fun σ65 hσ65 => ?_)
        refine s_goto (tgt := 258) hC dL_write_48 (by decide) ?_
        refine s_sub (L' := [(0, vI a1), (1, vI a2), (3, .ref (b + i4)), (4, .ref (b + i5)), (5, .ref (b + i6)), (6, vI x3), (7, vI v4), (8, vI r64)]) [1, 2, 3, 4, 5, 6, 7, 0] rfl ?_
        exact hj5 r64 σ65 hr64 hσ65
  · refine s_icmp_ge (tgt := 11) hC dL_write_4 (by decide) h2 hv1 ?_ ?_
    · refine s_aload_n hC dL_write_11 rfl 3 rfl ?_
      refine s_iconst hC dL_write_12 ?_
      refine s_iaload hC hK (hJ.1 σ) hσ hi4 ha4 dL_write_13 (fun v66 hv66 => ?_)
      exact hj2 v66 hv66
    · refine s_iload_n hC dL_write_7 rfl 1 rfl ?_
      refine s_goto (tgt := 14) hC dL_write_8 (by decide) ?_
      exact hj2 a2 h2
set_option maxHeartbeats 4000000 in
set_option maxRecDepth 100000 in
theorem m_L_rowOf {l : Launch} {G : Gt} {b : Nat} {σ : Blk} {I : Heap → Prop} (hI : ∀ H, I H → Bk G (layTab G b) 7 b σ H) (hσ : Rg σ) {a1 : Int} (h1 : inR a1) {i2 n2 : Nat} (hi2 : i2 < 7) (ha2 : isA G (layTab G b) i2 n2) : MetS l yL_rowOf cL_rowOf 3 (some .int) { frames := 0, cells := 0, slots := 0, locals := 0 } G [vI a1, .ref (b + i2)] I (poP I) (fun _ => False) 0 0 (g_L_rowOf σ a1 i2 n2) := by
  refine met_of (by decide) (Nat.le_of_ble_eq_true rfl) ?_
  intro p e s m below meth c hC hKA hr _
  have hK := hKA.1
  unfold g_L_rowOf
  refine s_sub (L' := [(0, vI a1), (1, .ref (b + i2))]) [0, 1] rfl ?_
  refine s_iconst hC dL_rowOf_0 ?_
  refine s_istore_n (L' := [(2, vI 0), (0, vI a1), (1, .ref (b + i2))]) hC dL_rowOf_1 rfl (by decide) rfl ?_
  refine s_sub (L' := [(0, vI a1), (1, .ref (b + i2)), (2, vI 0)]) [1, 2, 0] rfl ?_
  refine s_lp_I (F := g_L_rowOf_L2 σ a1 i2 n2) 2 (fun x1 => [(0, vI a1), (1, .ref (b + i2)), (2, vI x1)]) (fun _ => rfl) (fun n ih2 x1 hx1 => ?_) fu 0 (inR_c _ rfl)
  rw [g_L_rowOf_L2]
  refine s_iload_n hC dL_rowOf_2 rfl 2 rfl ?_
  refine s_bipush hC dL_rowOf_3 (by decide) ?_
  refine s_icmp_ge (tgt := 35) hC dL_rowOf_5 (by decide) hx1 (inR_c _ rfl) ?_ ?_
  · refine s_sub (L' := []) [] rfl ?_
    refine s_iconst hC dL_rowOf_35 ?_
    exact s_iret hC hr dL_rowOf_36 (fun H hH => ⟨rfl, (inR_c _ rfl), hH⟩)
  · refine s_aload_n hC dL_rowOf_8 rfl 1 rfl ?_
    refine s_iconst hC dL_rowOf_9 ?_
    refine s_iload_n hC dL_rowOf_10 rfl 2 rfl ?_
    refine s_imul hC dL_rowOf_11 ?_
    refine s_iconst hC dL_rowOf_12 ?_
    refine s_iadd hC dL_rowOf_13 ?_
    refine s_iaload hC hK hI hσ hi2 ha2 dL_rowOf_14 (fun v2 hv2 => ?_)
    refine s_jp_ 29 ([(0, vI a1), (1, .ref (b + i2)), (2, vI x1)]) ([]) ?_ (fun j3 hj3 => ?_)
    · refine s_iincK hC dL_rowOf_29 2 rfl (by decide) (fun v4 => [(2, vI v4), (0, vI a1), (1, .ref (b + i2))]) (fun _ => rfl) (fun v4 hv4 => ?_)
      refine s_goto (tgt := 2) hC dL_rowOf_32 (by decide) ?_
      refine s_sub (L' := [(0, vI a1), (1, .ref (b + i2)), (2, vI v4)]) [1, 2, 0] rfl ?_
      exact ih2 v4 hv4
    · refine s_if_lt (tgt := 29) hC dL_rowOf_15 (by decide) hv2 ?_ ?_
      · exact hj3
      · refine s_aload_n hC dL_rowOf_18 rfl 1 rfl ?_
        refine s_iconst hC dL_rowOf_19 ?_
        refine s_iload_n hC dL_rowOf_20 rfl 2 rfl ?_
        refine s_imul hC dL_rowOf_21 ?_
        refine s_iaload hC hK hI hσ hi2 ha2 dL_rowOf_22 (fun v5 hv5 => ?_)
        refine s_iload_n hC dL_rowOf_23 rfl 0 rfl ?_
        refine s_icmp_ne (tgt := 29) hC dL_rowOf_24 (by decide) hv5 h1 ?_ ?_
        · exact hj3
        · refine s_sub (L' := [(2, vI x1)]) [2] rfl ?_
          refine s_iload_n hC dL_rowOf_27 rfl 0 rfl ?_
          exact s_iret hC hr dL_rowOf_28 (fun H hH => ⟨rfl, hx1, hH⟩)
set_option maxHeartbeats 4000000 in
set_option maxRecDepth 100000 in
theorem m_L_pack {l : Launch} {G : Gt} {b : Nat} {σ : Blk} {J : Blk → Heap → Prop} (hJ : Wd G (layTab G b) 7 b J) (hσ : Rg σ) {i1 n1 : Nat} (hi1 : i1 < 7) (ha1 : isA G (layTab G b) i1 n1) {i2 n2 : Nat} (hi2 : i2 < 7) (ha2 : isA G (layTab G b) i2 n2) {i3 n3 : Nat} (hi3 : i3 < 7) (ha3 : isA G (layTab G b) i3 n3) : MetS l yL_pack cL_pack 5 (some .boolean) { frames := 4, cells := 0, slots := 0, locals := 101 } G [.ref (b + i1), .ref (b + i2), .ref (b + i3)] (J σ) (poW J) (Ab b 7) 0 0 (g_L_pack σ i1 n1 i2 n2 i3 n3) := by
  refine met_of (by decide) (Nat.le_of_ble_eq_true rfl) ?_
  intro p e s m below meth c hC hKA hr _
  have hK := hKA.1
  unfold g_L_pack
  refine s_sub (L' := [(0, .ref (b + i1)), (1, .ref (b + i2)), (2, .ref (b + i3))]) [0, 1, 2] rfl ?_
  refine s_aload_n hC dL_pack_0 rfl 0 rfl ?_
  refine s_iconst hC dL_pack_1 ?_
  refine s_iconst hC dL_pack_2 ?_
  refine s_iastore hC hK hJ (fun _ h => h) hσ (inR_c _ rfl) hi1 ha1 dL_pack_3 (fun σ1 hσ1 => ?_)
  refine s_iconst hC dL_pack_4 ?_
  refine s_istore_n (L' := [(3, vI 0), (0, .ref (b + i1)), (1, .ref (b + i2)), (2, .ref (b + i3))]) hC dL_pack_5 rfl (by decide) rfl ?_
  refine s_sub (L' := [(0, .ref (b + i1)), (1, .ref (b + i2)), (2, .ref (b + i3)), (3, vI 0)]) [1, 2, 3, 0] rfl ?_
  refine s_lp_IB (J := J) (F := g_L_pack_L6 i1 n1 i2 n2 i3 n3) 6 (fun x2 => [(0, .ref (b + i1)), (1, .ref (b + i2)), (2, .ref (b + i3)), (3, vI x2)]) (fun _ _ => rfl) (fun n ih6 x2 σ3 hx2 hσ3 => ?_) fu 0 σ1 (inR_c _ rfl) hσ1
  rw [g_L_pack_L6]
  refine s_iload_n hC dL_pack_6 rfl 3 rfl ?_
  refine s_bipush hC dL_pack_7 (by decide) ?_
  refine s_icmp_ge (tgt := 52) hC dL_pack_9 (by decide) hx2 (inR_c _ rfl) ?_ ?_
  · refine s_sub (L' := []) [] rfl ?_
    refine s_iconst hC dL_pack_52 ?_
    exact s_zret hC hr (Or.inr rfl) dL_pack_53 (fun H hH => ⟨rfl, (inR_c _ rfl), hσ3, hH⟩)
  · refine s_iload_n hC dL_pack_12 rfl 3 rfl ?_
    refine s_aload_n hC dL_pack_13 rfl 1 rfl ?_
    refine s_callS_P (As := [vI x2, .ref (b + i2)]) (rest := []) hC hKA 2 (m_L_rowOf (hJ.1 σ3) hσ3 hx2 hi2 ha2) rfl (cb_of hC 2 q_c_yL_rowOf q_i_L q_m_L_38 rfl rfl dd_yL_rowOf ⟨Nat.le_of_ble_eq_true rfl, Nat.le_of_ble_eq_true rfl⟩) q_s_yL_rowOf rfl (Nat.le_of_ble_eq_true rfl) dL_pack_14 ⟨Nat.zero_le _, Nat.zero_le _⟩ (fun r4 hr4 => ?_)
    refine s_istore (L' := [(4, vI r4), (0, .ref (b + i1)), (1, .ref (b + i2)), (2, .ref (b + i3)), (3, vI x2)]) hC dL_pack_17 (by decide) rfl ?_
    refine s_iload hC dL_pack_19 0 rfl ?_
    refine s_jp_B (J := J) 46 ([(0, .ref (b + i1)), (1, .ref (b + i2)), (2, .ref (b + i3)), (3, vI x2)]) ([]) (fun σ6 hσ6 => ?_) (fun j5 hj5 => ?_)
    · refine s_iincK hC dL_pack_46 3 rfl (by decide) (fun v7 => [(3, vI v7), (0, .ref (b + i1)), (1, .ref (b + i2)), (2, .ref (b + i3))]) (fun _ => rfl) (fun v7 hv7 => ?_)
      refine s_goto (tgt := 6) hC dL_pack_49 (by decide) ?_
      refine s_sub (L' := [(0, .ref (b + i1)), (1, .ref (b + i2)), (2, .ref (b + i3)), (3, vI v7)]) [1, 2, 3, 0] rfl ?_
      exact ih6 v7 σ6 hv7 hσ6
    · refine s_if_lt (tgt := 46) hC dL_pack_21 (by decide) hr4 ?_ ?_
      · refine s_sub (L' := [(0, .ref (b + i1)), (1, .ref (b + i2)), (2, .ref (b + i3)), (3, vI x2)]) [1, 2, 3, 4] rfl ?_
        exact hj5 σ3 hσ3
      · refine s_sub (L' := [(0, .ref (b + i1)), (1, .ref (b + i2)), (2, .ref (b + i3)), (3, vI x2), (4, vI r4)]) [1, 2, 3, 4, 0] rfl ?_
        refine s_iload hC dL_pack_24 4 rfl ?_
        refine s_aload_n hC dL_pack_26 rfl 1 rfl ?_
        refine s_iconst hC dL_pack_27 ?_
        refine s_iload hC dL_pack_28 4 rfl ?_
        refine s_imul hC dL_pack_30 ?_
        refine s_iconst hC dL_pack_31 ?_
        refine s_iadd hC dL_pack_32 ?_
        refine s_iaload hC hK (hJ.1 σ3) hσ3 hi2 ha2 dL_pack_33 (fun v8 hv8 => ?_)
        refine s_iconst hC dL_pack_34 ?_
        refine s_aload_n hC dL_pack_35 rfl 0 rfl ?_
        refine s_aload_n hC dL_pack_36 rfl 1 rfl ?_
        refine s_aload_n hC dL_pack_37 rfl 2 rfl ?_
        refine s_callS_W (As := [vI r4, vI v8, vI 1, .ref (b + i1), .ref (b + i2), .ref (b + i3)]) (rest := []) hC hKA 6 (m_L_write hJ hσ3 hr4 hv8 (inR_c _ rfl) hi1 ha1 hi2 ha2 hi3 ha3) (fun _ h => h) rfl (cb_of hC 6 q_c_yL_write q_i_L q_m_L_42 rfl rfl dd_yL_write ⟨Nat.le_of_ble_eq_true rfl, Nat.le_of_ble_eq_true rfl⟩) q_s_yL_write rfl (Nat.le_of_ble_eq_true rfl) dL_pack_38 ⟨Nat.zero_le _, Nat.zero_le _⟩ (fun r9 σ10 hr9 hσ10 => ?_)
        refine s_if_ne (tgt := 46) hC dL_pack_41 (by decide) hr9 ?_ ?_
        · refine s_sub (L' := [(0, .ref (b + i1)), (1, .ref (b + i2)), (2, .ref (b + i3)), (3, vI x2)]) [0, 1, 2, 3] rfl ?_
          exact hj5 σ10 hσ10
        · refine s_sub (L' := []) [] rfl ?_
          refine s_iconst hC dL_pack_44 ?_
          exact s_zret hC hr (Or.inl rfl) dL_pack_45 (fun H hH => ⟨rfl, (inR_c _ rfl), hσ10, hH⟩)
set_option maxHeartbeats 4000000 in
set_option maxRecDepth 100000 in
theorem m_L_pieces {l : Launch} {G : Gt} {b : Nat} {σ : Blk} {I : Heap → Prop} (hI : ∀ H, I H → Bk G (layTab G b) 7 b σ H) (hσ : Rg σ) {a1 : Int} (h1 : inR a1) {i2 n2 : Nat} (hi2 : i2 < 7) (ha2 : isA G (layTab G b) i2 n2) {a3 : Int} (h3 : inR a3) : MetS l yL_pieces cL_pieces 4 (some .int) { frames := 1, cells := 0, slots := 0, locals := 25 } G [vI a1, .ref (b + i2), vI a3] I (poP I) (fun _ => False) 0 0 (g_L_pieces σ a1 i2 n2 a3) := by
  refine met_of (by decide) (Nat.le_of_ble_eq_true rfl) ?_
  intro p e s m below meth c hC hKA hr _
  have hK := hKA.1
  unfold g_L_pieces
  refine s_sub (L' := [(0, vI a1), (1, .ref (b + i2)), (2, vI a3)]) [0, 1, 2] rfl ?_
  refine s_iconst hC dL_pieces_0 ?_
  refine s_istore_n (L' := [(3, vI 0), (0, vI a1), (1, .ref (b + i2)), (2, vI a3)]) hC dL_pieces_1 rfl (by decide) rfl ?_
  refine s_sub (L' := [(0, vI a1), (1, .ref (b + i2)), (2, vI a3), (3, vI 0)]) [1, 2, 3, 0] rfl ?_
  refine s_lp_I (F := g_L_pieces_L2 σ a1 i2 n2 a3) 2 (fun x1 => [(0, vI a1), (1, .ref (b + i2)), (2, vI a3), (3, vI x1)]) (fun _ => rfl) (fun n ih2 x1 hx1 => ?_) fu 0 (inR_c _ rfl)
  rw [g_L_pieces_L2]
  refine s_iconst hC dL_pieces_2 ?_
  refine s_iload_n hC dL_pieces_3 rfl 0 rfl ?_
  refine s_iload_n hC dL_pieces_4 rfl 3 rfl ?_
  refine s_aload_n hC dL_pieces_5 rfl 1 rfl ?_
  refine s_iload_n hC dL_pieces_6 rfl 2 rfl ?_
  refine s_callS_P (As := [vI 2, vI a1, vI x1, .ref (b + i2), vI a3]) (rest := []) hC hKA 5 (m_L_find hI hσ (inR_c _ rfl) h1 hx1 hi2 ha2 h3) rfl (cb_of hC 5 q_c_yL_find q_i_L q_m_L_26 rfl rfl dd_yL_find ⟨Nat.le_of_ble_eq_true rfl, Nat.le_of_ble_eq_true rfl⟩) q_s_yL_find rfl (Nat.le_of_ble_eq_true rfl) dL_pieces_7 ⟨Nat.zero_le _, Nat.zero_le _⟩ (fun r2 hr2 => ?_)
  refine s_if_lt (tgt := 19) hC dL_pieces_10 (by decide) hr2 ?_ ?_
  · refine s_sub (L' := [(3, vI x1)]) [3] rfl ?_
    refine s_iload_n hC dL_pieces_19 rfl 0 rfl ?_
    exact s_iret hC hr dL_pieces_20 (fun H hH => ⟨rfl, hx1, hH⟩)
  · refine s_iincK hC dL_pieces_13 3 rfl (by decide) (fun v3 => [(3, vI v3), (0, vI a1), (1, .ref (b + i2)), (2, vI a3)]) (fun _ => rfl) (fun v3 hv3 => ?_)
    refine s_goto (tgt := 2) hC dL_pieces_16 (by decide) ?_
    refine s_sub (L' := [(0, vI a1), (1, .ref (b + i2)), (2, vI a3), (3, vI v3)]) [1, 2, 3, 0] rfl ?_
    exact ih2 v3 hv3
set_option maxHeartbeats 4000000 in
set_option maxRecDepth 100000 in
theorem m_L_cost {l : Launch} {G : Gt} {b : Nat} {σ : Blk} {I : Heap → Prop} (hI : ∀ H, I H → Bk G (layTab G b) 7 b σ H) (hσ : Rg σ) {a1 : Int} (h1 : inR a1) {i2 n2 : Nat} (hi2 : i2 < 7) (ha2 : isA G (layTab G b) i2 n2) {i3 n3 : Nat} (hi3 : i3 < 7) (ha3 : isA G (layTab G b) i3 n3) {a4 : Int} (h4 : inR a4) : MetS l yL_cost cL_cost 8 (some .int) { frames := 2, cells := 0, slots := 0, locals := 48 } G [vI a1, .ref (b + i2), .ref (b + i3), vI a4] I (poP I) (fun _ => False) 0 0 (g_L_cost σ a1 i2 n2 i3 n3 a4) := by
  refine met_of (by decide) (Nat.le_of_ble_eq_true rfl) ?_
  intro p e s m below meth c hC hKA hr _
  have hK := hKA.1
  unfold g_L_cost
  refine s_sub (L' := [(0, vI a1), (1, .ref (b + i2)), (2, .ref (b + i3)), (3, vI a4)]) [0, 1, 2, 3] rfl ?_
  refine s_aload_n hC dL_cost_0 rfl 1 rfl ?_
  refine s_iconst hC dL_cost_1 ?_
  refine s_iload_n hC dL_cost_2 rfl 0 rfl ?_
  refine s_imul hC dL_cost_3 ?_
  refine s_iconst hC dL_cost_4 ?_
  refine s_iadd hC dL_cost_5 ?_
  refine s_iaload hC hK hI hσ hi2 ha2 dL_cost_6 (fun v1 hv1 => ?_)
  refine s_bipush hC dL_cost_7 (by decide) ?_
  refine s_idiv hC dL_cost_9 hv1 (inR_c _ rfl) (by decide) (fun v2 hv2 => ?_)
  refine s_istore (L' := [(4, vI v2), (0, vI a1), (1, .ref (b + i2)), (2, .ref (b + i3)), (3, vI a4)]) hC dL_cost_10 (by decide) rfl ?_
  refine s_iconst hC dL_cost_12 ?_
  refine s_istore (L' := [(5, vI 1), (4, vI v2), (0, vI a1), (1, .ref (b + i2)), (2, .ref (b + i3)), (3, vI a4)]) hC dL_cost_13 (by decide) rfl ?_
  refine s_iconst hC dL_cost_15 ?_
  refine s_istore (L' := [(6, vI ((-1))), (5, vI 1), (4, vI v2), (0, vI a1), (1, .ref (b + i2)), (2, .ref (b + i3)), (3, vI a4)]) hC dL_cost_16 (by decide) rfl ?_
  refine s_sub (L' := [(0, vI a1), (1, .ref (b + i2)), (2, .ref (b + i3)), (3, vI a4), (4, vI v2), (5, vI 1), (6, vI ((-1)))]) [3, 4, 5, 6, 2, 1, 0] rfl ?_
  refine s_lp_III (F := g_L_cost_L18 σ a1 i2 n2 i3 n3 a4) 18 (fun x3 x4 x5 => [(0, vI a1), (1, .ref (b + i2)), (2, .ref (b + i3)), (3, vI a4), (4, vI x3), (5, vI x4), (6, vI x5)]) (fun _ _ _ => rfl) (fun n ih18 x3 x4 x5 hx3 hx4 hx5 => ?_) fu v2 1 ((-1)) hv2 (inR_c _ rfl) (inR_c _ rfl)
  rw [g_L_cost_L18]
  refine s_iload hC dL_cost_18 6 rfl ?_
  refine s_iload_n hC dL_cost_20 rfl 0 rfl ?_
  refine s_aload_n hC dL_cost_21 rfl 2 rfl ?_
  refine s_iload_n hC dL_cost_22 rfl 3 rfl ?_
  refine s_callS_P (As := [vI a1, .ref (b + i3), vI a4]) (rest := [vI x5]) hC hKA 3 (m_L_pieces hI hσ h1 hi3 ha3 h4) rfl (cb_of hC 3 q_c_yL_pieces q_i_L q_m_L_46 rfl rfl dd_yL_pieces ⟨Nat.le_of_ble_eq_true rfl, Nat.le_of_ble_eq_true rfl⟩) q_s_yL_pieces rfl (Nat.le_of_ble_eq_true rfl) dL_cost_23 ⟨Nat.zero_le _, Nat.zero_le _⟩ (fun r6 hr6 => ?_)
  refine s_icmp_ge (tgt := 93) hC dL_cost_26 (by decide) hx5 hr6 ?_ ?_
  · refine s_sub (L' := [(5, vI x4)]) [5] rfl ?_
    refine s_iload hC dL_cost_93 0 rfl ?_
    exact s_iret hC hr dL_cost_95 (fun H hH => ⟨rfl, hx4, hH⟩)
  · refine s_iload hC dL_cost_29 6 rfl ?_
    refine s_jp_I 64 (fun x8 => [(0, vI a1), (1, .ref (b + i2)), (2, .ref (b + i3)), (3, vI a4), (4, vI x3), (5, vI x4), (6, vI x5)]) (fun x8 => [vI x8]) (fun x8 hx8 => ?_) (fun j7 hj7 => ?_)
    · refine s_istore (L' := [(7, vI x8), (0, vI a1), (1, .ref (b + i2)), (2, .ref (b + i3)), (3, vI a4), (4, vI x3), (5, vI x4), (6, vI x5)]) hC dL_cost_64 (by decide) rfl ?_
      refine s_iload hC dL_cost_66 6 rfl ?_
      refine s_iload hC dL_cost_68 0 rfl ?_
      refine s_iload hC dL_cost_70 5 rfl ?_
      refine s_jp_I 80 (fun x10 => [(0, vI a1), (1, .ref (b + i2)), (2, .ref (b + i3)), (3, vI a4), (6, vI x5), (7, vI x8)]) (fun x10 => [vI x10, vI x4]) (fun x10 hx10 => ?_) (fun j9 hj9 => ?_)
      · refine s_iadd hC dL_cost_80 ?_
        refine s_ck0 (fun v11 hv11 => ?_)
        refine s_istore (L' := [(5, vI v11), (0, vI a1), (1, .ref (b + i2)), (2, .ref (b + i3)), (3, vI a4), (6, vI x5), (7, vI x8)]) hC dL_cost_81 (by decide) rfl ?_
        refine s_iload hC dL_cost_83 6 rfl ?_
        refine s_istore (L' := [(4, vI x8), (5, vI v11), (0, vI a1), (1, .ref (b + i2)), (2, .ref (b + i3)), (3, vI a4), (6, vI x5), (7, vI x8)]) hC dL_cost_85 (by decide) rfl ?_
        refine s_iincK hC dL_cost_87 6 rfl (by decide) (fun v12 => [(6, vI v12), (4, vI x8), (5, vI v11), (0, vI a1), (1, .ref (b + i2)), (2, .ref (b + i3)), (3, vI a4), (7, vI x8)]) (fun _ => rfl) (fun v12 hv12 => ?_)
        refine s_goto (tgt := 18) hC dL_cost_90 (by decide) ?_
        refine s_sub (L' := [(0, vI a1), (1, .ref (b + i2)), (2, .ref (b + i3)), (3, vI a4), (4, vI x8), (5, vI v11), (6, vI v12)]) [3, 4, 5, 6, 1, 2, 0] rfl ?_
        exact ih18 x8 v11 v12 hx8 hv11 hv12
      · refine s_icmp_eq (tgt := 79) hC dL_cost_72 (by decide) hx8 hx3 ?_ ?_
        · refine s_sub (L' := [(0, vI a1), (1, .ref (b + i2)), (2, .ref (b + i3)), (3, vI a4), (6, vI x5), (7, vI x8)]) [1, 2, 3, 4, 7, 0] rfl ?_
          refine s_iconst hC dL_cost_79 ?_
          exact hj9 0 (inR_c _ rfl)
        · refine s_sub (L' := [(0, vI a1), (1, .ref (b + i2)), (2, .ref (b + i3)), (3, vI a4), (6, vI x5), (7, vI x8)]) [1, 2, 3, 4, 7, 0] rfl ?_
          refine s_iconst hC dL_cost_75 ?_
          refine s_goto (tgt := 80) hC dL_cost_76 (by decide) ?_
          exact hj9 1 (inR_c _ rfl)
    · refine s_if_ge (tgt := 47) hC dL_cost_31 (by decide) hx5 ?_ ?_
      · refine s_aload_n hC dL_cost_47 rfl 2 rfl ?_
        refine s_iconst hC dL_cost_48 ?_
        refine s_iload_n hC dL_cost_49 rfl 0 rfl ?_
        refine s_iload hC dL_cost_50 6 rfl ?_
        refine s_aload_n hC dL_cost_52 rfl 2 rfl ?_
        refine s_iload_n hC dL_cost_53 rfl 3 rfl ?_
        refine s_callS_P (As := [vI 2, vI a1, vI x5, .ref (b + i3), vI a4]) (rest := [.ref (b + i3)]) hC hKA 5 (m_L_find hI hσ (inR_c _ rfl) h1 hx5 hi3 ha3 h4) rfl (cb_of hC 5 q_c_yL_find q_i_L q_m_L_26 rfl rfl dd_yL_find ⟨Nat.le_of_ble_eq_true rfl, Nat.le_of_ble_eq_true rfl⟩) q_s_yL_find rfl (Nat.le_of_ble_eq_true rfl) dL_cost_54 ⟨Nat.zero_le _, Nat.zero_le _⟩ (fun r13 hr13 => ?_)
        refine s_iaload hC hK hI hσ hi3 ha3 dL_cost_57 (fun v14 hv14 => ?_)
        refine s_bipush hC dL_cost_58 (by decide) ?_
        refine s_ishr hC dL_cost_60 ?_
        refine s_bipush hC dL_cost_61 (by decide) ?_
        refine s_idiv hC dL_cost_63 (i32_in _) (inR_c _ rfl) (by decide) (fun v15 hv15 => ?_)
        exact hj7 v15 hv15
      · refine s_aload_n hC dL_cost_34 rfl 1 rfl ?_
        refine s_iconst hC dL_cost_35 ?_
        refine s_iload_n hC dL_cost_36 rfl 0 rfl ?_
        refine s_imul hC dL_cost_37 ?_
        refine s_iconst hC dL_cost_38 ?_
        refine s_iadd hC dL_cost_39 ?_
        refine s_iaload hC hK hI hσ hi2 ha2 dL_cost_40 (fun v16 hv16 => ?_)
        refine s_bipush hC dL_cost_41 (by decide) ?_
        refine s_idiv hC dL_cost_43 hv16 (inR_c _ rfl) (by decide) (fun v17 hv17 => ?_)
        refine s_goto (tgt := 64) hC dL_cost_44 (by decide) ?_
        exact hj7 v17 hv17
set_option maxHeartbeats 4000000 in
set_option maxRecDepth 100000 in
theorem m_L_costs {l : Launch} {G : Gt} {b : Nat} {σ : Blk} {I : Heap → Prop} (hI : ∀ H, I H → Bk G (layTab G b) 7 b σ H) (hσ : Rg σ) {i1 n1 : Nat} (hi1 : i1 < 7) (ha1 : isA G (layTab G b) i1 n1) {i2 n2 : Nat} (hi2 : i2 < 7) (ha2 : isA G (layTab G b) i2 n2) {a3 : Int} (h3 : inR a3) : MetS l yL_costs cL_costs 5 (some .int) { frames := 3, cells := 0, slots := 0, locals := 75 } G [.ref (b + i1), .ref (b + i2), vI a3] I (poP I) (fun _ => False) 0 0 (g_L_costs σ i1 n1 i2 n2 a3) := by
  refine met_of (by decide) (Nat.le_of_ble_eq_true rfl) ?_
  intro p e s m below meth c hC hKA hr _
  have hK := hKA.1
  unfold g_L_costs
  refine s_sub (L' := [(0, .ref (b + i1)), (1, .ref (b + i2)), (2, vI a3)]) [0, 1, 2] rfl ?_
  refine s_iconst hC dL_costs_0 ?_
  refine s_istore_n (L' := [(3, vI 0), (0, .ref (b + i1)), (1, .ref (b + i2)), (2, vI a3)]) hC dL_costs_1 rfl (by decide) rfl ?_
  refine s_iconst hC dL_costs_2 ?_
  refine s_istore (L' := [(4, vI 0), (3, vI 0), (0, .ref (b + i1)), (1, .ref (b + i2)), (2, vI a3)]) hC dL_costs_3 (by decide) rfl ?_
  refine s_sub (L' := [(0, .ref (b + i1)), (1, .ref (b + i2)), (2, vI a3), (3, vI 0), (4, vI 0)]) [2, 3, 4, 1, 0] rfl ?_
  refine s_lp_II (F := g_L_costs_L5 σ i1 n1 i2 n2 a3) 5 (fun x1 x2 => [(0, .ref (b + i1)), (1, .ref (b + i2)), (2, vI a3), (3, vI x1), (4, vI x2)]) (fun _ _ => rfl) (fun n ih5 x1 x2 hx1 hx2 => ?_) fu 0 0 (inR_c _ rfl) (inR_c _ rfl)
  rw [g_L_costs_L5]
  refine s_iload hC dL_costs_5 4 rfl ?_
  refine s_bipush hC dL_costs_7 (by decide) ?_
  refine s_icmp_ge (tgt := 44) hC dL_costs_9 (by decide) hx2 (inR_c _ rfl) ?_ ?_
  · refine s_sub (L' := [(3, vI x1)]) [3] rfl ?_
    refine s_iload_n hC dL_costs_44 rfl 0 rfl ?_
    exact s_iret hC hr dL_costs_45 (fun H hH => ⟨rfl, hx1, hH⟩)
  · refine s_iload_n hC dL_costs_12 rfl 3 rfl ?_
    refine s_aload_n hC dL_costs_13 rfl 0 rfl ?_
    refine s_iconst hC dL_costs_14 ?_
    refine s_iload hC dL_costs_15 4 rfl ?_
    refine s_imul hC dL_costs_17 ?_
    refine s_iconst hC dL_costs_18 ?_
    refine s_iadd hC dL_costs_19 ?_
    refine s_iaload hC hK hI hσ hi1 ha1 dL_costs_20 (fun v3 hv3 => ?_)
    refine s_jp_I 36 (fun x5 => [(0, .ref (b + i1)), (1, .ref (b + i2)), (2, vI a3), (4, vI x2)]) (fun x5 => [vI x5, vI x1]) (fun x5 hx5 => ?_) (fun j4 hj4 => ?_)
    · refine s_iadd hC dL_costs_36 ?_
      refine s_ck0 (fun v6 hv6 => ?_)
      refine s_istore_n (L' := [(3, vI v6), (0, .ref (b + i1)), (1, .ref (b + i2)), (2, vI a3), (4, vI x2)]) hC dL_costs_37 rfl (by decide) rfl ?_
      refine s_iincK hC dL_costs_38 4 rfl (by decide) (fun v7 => [(4, vI v7), (3, vI v6), (0, .ref (b + i1)), (1, .ref (b + i2)), (2, vI a3)]) (fun _ => rfl) (fun v7 hv7 => ?_)
      refine s_goto (tgt := 5) hC dL_costs_41 (by decide) ?_
      refine s_sub (L' := [(0, .ref (b + i1)), (1, .ref (b + i2)), (2, vI a3), (3, vI v6), (4, vI v7)]) [2, 3, 4, 1, 0] rfl ?_
      exact ih5 v6 v7 hv6 hv7
    · refine s_if_ge (tgt := 28) hC dL_costs_21 (by decide) hv3 ?_ ?_
      · refine s_sub (L' := [(0, .ref (b + i1)), (1, .ref (b + i2)), (2, vI a3), (4, vI x2)]) [0, 1, 2, 4] rfl ?_
        refine s_iload hC dL_costs_28 3 rfl ?_
        refine s_aload_n hC dL_costs_30 rfl 0 rfl ?_
        refine s_aload_n hC dL_costs_31 rfl 1 rfl ?_
        refine s_iload_n hC dL_costs_32 rfl 2 rfl ?_
        refine s_callS_P (As := [vI x2, .ref (b + i1), .ref (b + i2), vI a3]) (rest := [vI x1]) hC hKA 4 (m_L_cost hI hσ hx2 hi1 ha1 hi2 ha2 h3) rfl (cb_of hC 4 q_c_yL_cost q_i_L q_m_L_49 rfl rfl dd_yL_cost ⟨Nat.le_of_ble_eq_true rfl, Nat.le_of_ble_eq_true rfl⟩) q_s_yL_cost rfl (Nat.le_of_ble_eq_true rfl) dL_costs_33 ⟨Nat.zero_le _, Nat.zero_le _⟩ (fun r8 hr8 => ?_)
        exact hj4 r8 hr8
      · refine s_sub (L' := [(0, .ref (b + i1)), (1, .ref (b + i2)), (2, vI a3), (4, vI x2)]) [0, 1, 2, 4] rfl ?_
        refine s_iconst hC dL_costs_24 ?_
        refine s_goto (tgt := 36) hC dL_costs_25 (by decide) ?_
        exact hj4 0 (inR_c _ rfl)
set_option maxHeartbeats 4000000 in
set_option maxRecDepth 100000 in
theorem m_L_kinds {l : Launch} {G : Gt} {b : Nat} {σ : Blk} {I : Heap → Prop} (hI : ∀ H, I H → Bk G (layTab G b) 7 b σ H) (hσ : Rg σ) {a1 : Int} (h1 : inR a1) {i2 n2 : Nat} (hi2 : i2 < 7) (ha2 : isA G (layTab G b) i2 n2) {a3 : Int} (h3 : inR a3) : MetS l yL_kinds cL_kinds 5 (some .int) { frames := 0, cells := 0, slots := 0, locals := 0 } G [vI a1, .ref (b + i2), vI a3] I (poP I) (fun _ => False) 0 0 (g_L_kinds σ a1 i2 n2 a3) := by
  refine met_of (by decide) (Nat.le_of_ble_eq_true rfl) ?_
  intro p e s m below meth c hC hKA hr _
  have hK := hKA.1
  unfold g_L_kinds
  refine s_sub (L' := [(0, vI a1), (1, .ref (b + i2)), (2, vI a3)]) [0, 1, 2] rfl ?_
  refine s_iconst hC dL_kinds_0 ?_
  refine s_istore_n (L' := [(3, vI 0), (0, vI a1), (1, .ref (b + i2)), (2, vI a3)]) hC dL_kinds_1 rfl (by decide) rfl ?_
  refine s_iconst hC dL_kinds_2 ?_
  refine s_istore (L' := [(4, vI 0), (3, vI 0), (0, vI a1), (1, .ref (b + i2)), (2, vI a3)]) hC dL_kinds_3 (by decide) rfl ?_
  refine s_sub (L' := [(0, vI a1), (1, .ref (b + i2)), (2, vI a3), (3, vI 0), (4, vI 0)]) [2, 3, 4, 1, 0] rfl ?_
  refine s_lp_II (F := g_L_kinds_L5 σ a1 i2 n2 a3) 5 (fun x1 x2 => [(0, vI a1), (1, .ref (b + i2)), (2, vI a3), (3, vI x1), (4, vI x2)]) (fun _ _ => rfl) (fun n ih5 x1 x2 hx1 hx2 => ?_) fu 0 0 (inR_c _ rfl) (inR_c _ rfl)
  rw [g_L_kinds_L5]
  refine s_iload hC dL_kinds_5 4 rfl ?_
  refine s_iload_n hC dL_kinds_7 rfl 2 rfl ?_
  refine s_icmp_ge (tgt := 38) hC dL_kinds_8 (by decide) hx2 h3 ?_ ?_
  · refine s_sub (L' := [(3, vI x1)]) [3] rfl ?_
    refine s_iload_n hC dL_kinds_38 rfl 0 rfl ?_
    exact s_iret hC hr dL_kinds_39 (fun H hH => ⟨rfl, hx1, hH⟩)
  · refine s_iload_n hC dL_kinds_11 rfl 3 rfl ?_
    refine s_aload_n hC dL_kinds_12 rfl 1 rfl ?_
    refine s_iload hC dL_kinds_13 4 rfl ?_
    refine s_iaload hC hK hI hσ hi2 ha2 dL_kinds_15 (fun v3 hv3 => ?_)
    refine s_bipush hC dL_kinds_16 (by decide) ?_
    refine s_ishr hC dL_kinds_18 ?_
    refine s_iconst hC dL_kinds_19 ?_
    refine s_iand hC dL_kinds_20 ?_
    refine s_iload_n hC dL_kinds_21 rfl 0 rfl ?_
    refine s_jp_I 30 (fun x5 => [(0, vI a1), (1, .ref (b + i2)), (2, vI a3), (4, vI x2)]) (fun x5 => [vI x5, vI x1]) (fun x5 hx5 => ?_) (fun j4 hj4 => ?_)
    · refine s_iadd hC dL_kinds_30 ?_
      refine s_ck0 (fun v6 hv6 => ?_)
      refine s_istore_n (L' := [(3, vI v6), (0, vI a1), (1, .ref (b + i2)), (2, vI a3), (4, vI x2)]) hC dL_kinds_31 rfl (by decide) rfl ?_
      refine s_iincK hC dL_kinds_32 4 rfl (by decide) (fun v7 => [(4, vI v7), (3, vI v6), (0, vI a1), (1, .ref (b + i2)), (2, vI a3)]) (fun _ => rfl) (fun v7 hv7 => ?_)
      refine s_goto (tgt := 5) hC dL_kinds_35 (by decide) ?_
      refine s_sub (L' := [(0, vI a1), (1, .ref (b + i2)), (2, vI a3), (3, vI v6), (4, vI v7)]) [2, 3, 4, 1, 0] rfl ?_
      exact ih5 v6 v7 hv6 hv7
    · refine s_icmp_ne (tgt := 29) hC dL_kinds_22 (by decide) (i32_in _) h1 ?_ ?_
      · refine s_sub (L' := [(0, vI a1), (1, .ref (b + i2)), (2, vI a3), (4, vI x2)]) [0, 1, 2, 4] rfl ?_
        refine s_iconst hC dL_kinds_29 ?_
        exact hj4 0 (inR_c _ rfl)
      · refine s_sub (L' := [(0, vI a1), (1, .ref (b + i2)), (2, vI a3), (4, vI x2)]) [0, 1, 2, 4] rfl ?_
        refine s_iconst hC dL_kinds_25 ?_
        refine s_goto (tgt := 30) hC dL_kinds_26 (by decide) ?_
        exact hj4 1 (inR_c _ rfl)
set_option maxHeartbeats 4000000 in
set_option maxRecDepth 100000 in
theorem m_L_letter {l : Launch} {G : Gt} {b : Nat} {σ : Blk} {I : Heap → Prop} (hI : ∀ H, I H → Bk G (layTab G b) 7 b σ H) (hσ : Rg σ) {a1 : Int} (h1 : inR a1) {a2 : Int} (h2 : inR a2) : MetS l yL_letter cL_letter 3 (some .int) { frames := 0, cells := 0, slots := 0, locals := 0 } G [vI a1, vI a2, .ref (b + 6)] I (poP I) (fun _ => False) 0 0 (g_L_letter σ a1 a2) := by
  refine met_of (by decide) (Nat.le_of_ble_eq_true rfl) ?_
  intro p e s m below meth c hC hKA hr _
  have hK := hKA.1
  unfold g_L_letter
  refine s_sub (L' := [(0, vI a1), (1, vI a2), (2, .ref (b + 6))]) [0, 1, 2] rfl ?_
  refine s_aload_n hC dL_letter_0 rfl 2 rfl ?_
  refine s_iconst hC dL_letter_1 ?_
  refine s_iload_n hC dL_letter_2 rfl 0 rfl ?_
  refine s_imul hC dL_letter_3 ?_
  refine s_iload_n hC dL_letter_4 rfl 1 rfl ?_
  refine s_bipush hC dL_letter_5 (by decide) ?_
  refine s_idiv hC dL_letter_7 h2 (inR_c _ rfl) (by decide) (fun v1 hv1 => ?_)
  refine s_iadd hC dL_letter_8 ?_
  refine s_laload hC hK hI (by decide) l_Tab_6 dL_letter_9 (fun l2 => ?_)
  refine s_iconst hC dL_letter_10 ?_
  refine s_iload_n hC dL_letter_11 rfl 1 rfl ?_
  refine s_bipush hC dL_letter_12 (by decide) ?_
  refine s_irem hC dL_letter_14 h2 (inR_c _ rfl) (by decide) (fun v3 hv3 => ?_)
  refine s_imul hC dL_letter_15 ?_
  refine s_lshr hC dL_letter_16 ?_
  refine s_l2i hC dL_letter_17 ?_
  refine s_bipush hC dL_letter_18 (by decide) ?_
  refine s_iand hC dL_letter_20 ?_
  exact s_iret hC hr dL_letter_21 (fun H hH => ⟨rfl, (i32_in _), hH⟩)
set_option maxHeartbeats 4000000 in
set_option maxRecDepth 100000 in
theorem m_L_copy {l : Launch} {G : Gt} {b : Nat} {σ : Blk} {J : Blk → Heap → Prop} (hJ : Wd G (layTab G b) 7 b J) (hσ : Rg σ) {i1 n1 : Nat} (hi1 : i1 < 7) (ha1 : isA G (layTab G b) i1 n1) {i2 n2 : Nat} (hi2 : i2 < 7) (ha2 : isA G (layTab G b) i2 n2) {i3 n3 : Nat} (hi3 : i3 < 7) (ha3 : isA G (layTab G b) i3 n3) {i4 n4 : Nat} (hi4 : i4 < 7) (ha4 : isA G (layTab G b) i4 n4) {i5 n5 : Nat} (hi5 : i5 < 7) (ha5 : isA G (layTab G b) i5 n5) {i6 n6 : Nat} (hi6 : i6 < 7) (ha6 : isA G (layTab G b) i6 n6) : MetS l yL_copy cL_copy 7 none { frames := 0, cells := 0, slots := 0, locals := 0 } G [.ref (b + i1), .ref (b + i2), .ref (b + i3), .ref (b + i4), .ref (b + i5), .ref (b + i6)] (J σ) (poU J) (Ab b 7) 0 0 (g_L_copy σ i1 n1 i2 n2 i3 n3 i4 n4 i5 n5 i6 n6) := by
  refine met_of (by decide) (Nat.le_of_ble_eq_true rfl) ?_
  intro p e s m below meth c hC hKA hr _
  have hK := hKA.1
  unfold g_L_copy
  refine s_sub (L' := [(0, .ref (b + i1)), (1, .ref (b + i2)), (2, .ref (b + i3)), (3, .ref (b + i4)), (4, .ref (b + i5)), (5, .ref (b + i6))]) [0, 1, 2, 3, 4, 5] rfl ?_
  refine s_iconst hC dL_copy_0 ?_
  refine s_istore (L' := [(6, vI 0), (0, .ref (b + i1)), (1, .ref (b + i2)), (2, .ref (b + i3)), (3, .ref (b + i4)), (4, .ref (b + i5)), (5, .ref (b + i6))]) hC dL_copy_1 (by decide) rfl ?_
  refine s_sub (L' := [(0, .ref (b + i1)), (1, .ref (b + i2)), (2, .ref (b + i3)), (3, .ref (b + i4)), (4, .ref (b + i5)), (5, .ref (b + i6)), (6, vI 0)]) [1, 2, 3, 4, 5, 6, 0] rfl ?_
  refine s_jp_B (J := J) 23 ([(1, .ref (b + i2)), (2, .ref (b + i3)), (4, .ref (b + i5)), (5, .ref (b + i6))]) ([]) (fun σ2 hσ2 => ?_) (fun j1 hj1 => ?_)
  · refine s_iconst hC dL_copy_23 ?_
    refine s_istore (L' := [(6, vI 0), (1, .ref (b + i2)), (2, .ref (b + i3)), (4, .ref (b + i5)), (5, .ref (b + i6))]) hC dL_copy_24 (by decide) rfl ?_
    refine s_sub (L' := [(1, .ref (b + i2)), (2, .ref (b + i3)), (4, .ref (b + i5)), (5, .ref (b + i6)), (6, vI 0)]) [1, 2, 3, 4, 0] rfl ?_
    refine s_jp_B (J := J) 48 ([(2, .ref (b + i3)), (5, .ref (b + i6))]) ([]) (fun σ4 hσ4 => ?_) (fun j3 hj3 => ?_)
    · refine s_iconst hC dL_copy_48 ?_
      refine s_istore (L' := [(6, vI 0), (2, .ref (b + i3)), (5, .ref (b + i6))]) hC dL_copy_49 (by decide) rfl ?_
      refine s_sub (L' := [(2, .ref (b + i3)), (5, .ref (b + i6)), (6, vI 0)]) [1, 2, 0] rfl ?_
      refine s_lp_IB (J := J) (F := g_L_copy_L51 i3 n3 i6 n6) 51 (fun x5 => [(2, .ref (b + i3)), (5, .ref (b + i6)), (6, vI x5)]) (fun _ _ => rfl) (fun n ih51 x5 σ6 hx5 hσ6 => ?_) fu 0 σ4 (inR_c _ rfl) hσ4
      rw [g_L_copy_L51]
      refine s_iload hC dL_copy_51 2 rfl ?_
      refine s_bipush hC dL_copy_53 (by decide) ?_
      refine s_icmp_ge (tgt := 73) hC dL_copy_55 (by decide) hx5 (inR_c _ rfl) ?_ ?_
      · refine s_sub (L' := []) [] rfl ?_
        exact s_vret hC hr dL_copy_73 (fun H hH => ⟨rfl, hσ6, hH⟩)
      · refine s_aload hC dL_copy_58 1 rfl ?_
        refine s_iload hC dL_copy_60 2 rfl ?_
        refine s_aload_n hC dL_copy_62 rfl 0 rfl ?_
        refine s_iload hC dL_copy_63 2 rfl ?_
        refine s_iaload hC hK (hJ.1 σ6) hσ6 hi3 ha3 dL_copy_65 (fun v7 hv7 => ?_)
        refine s_iastore hC hK hJ (fun _ h => h) hσ6 hv7 hi6 ha6 dL_copy_66 (fun σ8 hσ8 => ?_)
        refine s_iincK hC dL_copy_67 2 rfl (by decide) (fun v9 => [(6, vI v9), (2, .ref (b + i3)), (5, .ref (b + i6))]) (fun _ => rfl) (fun v9 hv9 => ?_)
        refine s_goto (tgt := 51) hC dL_copy_70 (by decide) ?_
        refine s_sub (L' := [(2, .ref (b + i3)), (5, .ref (b + i6)), (6, vI v9)]) [1, 2, 0] rfl ?_
        exact ih51 v9 σ8 hv9 hσ8
    · refine s_lp_IB (J := J) (F := g_L_copy_L26 i2 n2 i5 n5 j3) 26 (fun x10 => [(1, .ref (b + i2)), (2, .ref (b + i3)), (4, .ref (b + i5)), (5, .ref (b + i6)), (6, vI x10)]) (fun _ _ => rfl) (fun n ih26 x10 σ11 hx10 hσ11 => ?_) fu 0 σ2 (inR_c _ rfl) hσ2
      rw [g_L_copy_L26]
      refine s_iload hC dL_copy_26 4 rfl ?_
      refine s_bipush hC dL_copy_28 (by decide) ?_
      refine s_icmp_ge (tgt := 48) hC dL_copy_30 (by decide) hx10 (inR_c _ rfl) ?_ ?_
      · refine s_sub (L' := [(2, .ref (b + i3)), (5, .ref (b + i6))]) [1, 3] rfl ?_
        exact hj3 σ11 hσ11
      · refine s_aload hC dL_copy_33 2 rfl ?_
        refine s_iload hC dL_copy_35 4 rfl ?_
        refine s_aload_n hC dL_copy_37 rfl 0 rfl ?_
        refine s_iload hC dL_copy_38 4 rfl ?_
        refine s_iaload hC hK (hJ.1 σ11) hσ11 hi2 ha2 dL_copy_40 (fun v12 hv12 => ?_)
        refine s_iastore hC hK hJ (fun _ h => h) hσ11 hv12 hi5 ha5 dL_copy_41 (fun σ13 hσ13 => ?_)
        refine s_iincK hC dL_copy_42 4 rfl (by decide) (fun v14 => [(6, vI v14), (1, .ref (b + i2)), (2, .ref (b + i3)), (4, .ref (b + i5)), (5, .ref (b + i6))]) (fun _ => rfl) (fun v14 hv14 => ?_)
        refine s_goto (tgt := 26) hC dL_copy_45 (by decide) ?_
        refine s_sub (L' := [(1, .ref (b + i2)), (2, .ref (b + i3)), (4, .ref (b + i5)), (5, .ref (b + i6)), (6, vI v14)]) [1, 2, 3, 4, 0] rfl ?_
        exact ih26 v14 σ13 hv14 hσ13
  · refine s_lp_IB (J := J) (F := g_L_copy_L3 i1 n1 i4 n4 j1) 3 (fun x15 => [(0, .ref (b + i1)), (1, .ref (b + i2)), (2, .ref (b + i3)), (3, .ref (b + i4)), (4, .ref (b + i5)), (5, .ref (b + i6)), (6, vI x15)]) (fun _ _ => rfl) (fun n ih3 x15 σ16 hx15 hσ16 => ?_) fu 0 σ (inR_c _ rfl) hσ
    rw [g_L_copy_L3]
    refine s_iload hC dL_copy_3 6 rfl ?_
    refine s_iconst hC dL_copy_5 ?_
    refine s_icmp_ge (tgt := 23) hC dL_copy_6 (by decide) hx15 (inR_c _ rfl) ?_ ?_
    · refine s_sub (L' := [(1, .ref (b + i2)), (2, .ref (b + i3)), (4, .ref (b + i5)), (5, .ref (b + i6))]) [1, 2, 4, 5] rfl ?_
      exact hj1 σ16 hσ16
    · refine s_aload_n hC dL_copy_9 rfl 3 rfl ?_
      refine s_iload hC dL_copy_10 6 rfl ?_
      refine s_aload_n hC dL_copy_12 rfl 0 rfl ?_
      refine s_iload hC dL_copy_13 6 rfl ?_
      refine s_iaload hC hK (hJ.1 σ16) hσ16 hi1 ha1 dL_copy_15 (fun v17 hv17 => ?_)
      refine s_iastore hC hK hJ (fun _ h => h) hσ16 hv17 hi4 ha4 dL_copy_16 (fun σ18 hσ18 => ?_)
      refine s_iincK hC dL_copy_17 6 rfl (by decide) (fun v19 => [(6, vI v19), (0, .ref (b + i1)), (1, .ref (b + i2)), (2, .ref (b + i3)), (3, .ref (b + i4)), (4, .ref (b + i5)), (5, .ref (b + i6))]) (fun _ => rfl) (fun v19 hv19 => ?_)
      refine s_goto (tgt := 3) hC dL_copy_20 (by decide) ?_
      refine s_sub (L' := [(0, .ref (b + i1)), (1, .ref (b + i2)), (2, .ref (b + i3)), (3, .ref (b + i4)), (4, .ref (b + i5)), (5, .ref (b + i6)), (6, vI v19)]) [1, 2, 3, 4, 5, 6, 0] rfl ?_
      exact ih3 v19 σ18 hv19 hσ18
