set_option maxHeartbeats 4000000 in
set_option maxRecDepth 100000 in
theorem m_X2_awaitKey {l : Launch} {G : Gt} {b : Nat} {σ : Blk} {J : Blk → Heap → Prop} (hJ : Wd G (layPad G b) 5 b J) (hσ : Rg σ)  : MetS l yX2_awaitKey cX2_awaitKey 1 none { frames := 0, cells := 0, slots := 0, locals := 0 } G [.ref (b + 0)] (J σ) (poU J) (Ab b 5) 0 0 (g_X2_awaitKey σ) := by
  refine met_of (by decide) (Nat.le_of_ble_eq_true rfl) ?_
  intro p e s m below meth c hC hKA hr _
  have hK := hKA.1
  unfold g_X2_awaitKey
  refine s_sub (L' := [(0, .ref (b + 0))]) [0] rfl ?_
  refine s_aload_n hC dX2_awaitKey_0 rfl 0 rfl ?_
  refine s_iconst hC dX2_awaitKey_1 ?_
  refine s_putP (ty := .boolean) hC hK hJ (fun _ h => h) hσ (inR_c _ rfl) (by decide) o_Pad rfl q_w_X2 tyX2_ok nmX2 6 (by decide) q_f_X2_31 rfl (by decide +kernel) (by decide) (by decide) (fun _ => Nat.le_of_ble_eq_true rfl) u_Pad_6 dX2_awaitKey_2 (fun σ1 hσ1 => ?_)
  refine s_aload_n hC dX2_awaitKey_5 rfl 0 rfl ?_
  refine s_iconst hC dX2_awaitKey_6 ?_
  refine s_putP (ty := .int) hC hK hJ (fun _ h => h) hσ1 (inR_c _ rfl) (by decide) o_Pad rfl q_w_X2 tyX2_ok nmX2 7 (by decide) q_f_X2_35 rfl (by decide +kernel) rfl rfl (fun _ => Nat.le_of_ble_eq_true rfl) u_Pad_7 dX2_awaitKey_7 (fun σ2 hσ2 => ?_)
  refine s_aload_n hC dX2_awaitKey_10 rfl 0 rfl ?_
  refine s_iconst hC dX2_awaitKey_11 ?_
  refine s_putP (ty := .int) hC hK hJ (fun _ h => h) hσ2 (inR_c _ rfl) (by decide) o_Pad rfl q_w_X2 tyX2_ok nmX2 8 (by decide) q_f_X2_38 rfl (by decide +kernel) rfl rfl (fun _ => Nat.le_of_ble_eq_true rfl) u_Pad_8 dX2_awaitKey_12 (fun σ3 hσ3 => ?_)
  exact s_vret hC hr dX2_awaitKey_15 (fun H hH => ⟨rfl, hσ3, hH⟩)
set_option maxHeartbeats 4000000 in
set_option maxRecDepth 100000 in
theorem m_X2_readInText {l : Launch} {G : Gt} {b : Nat} {σ : Blk} {J : Blk → Heap → Prop} (hJ : Wd G (layPad G b) 5 b J) (hσ : Rg σ) {a1 : Int} (h1 : inR a1) : MetS l yX2_readInText cX2_readInText 3 (some .boolean) { frames := 1, cells := 0, slots := 0, locals := 22 } G [.ref (b + 0), vI a1] (J σ) (poW J) (Ab b 5) 0 0 (g_X2_readInText σ a1) := by
  refine met_of (by decide) (Nat.le_of_ble_eq_true rfl) ?_
  intro p e s m below meth c hC hKA hr _
  have hK := hKA.1
  unfold g_X2_readInText
  refine s_sub (L' := [(0, .ref (b + 0)), (1, vI a1)]) [0, 1] rfl ?_
  refine s_iload_n hC dX2_readInText_0 rfl 1 rfl ?_
  refine s_bipush hC dX2_readInText_1 (by decide) ?_
  refine s_icmp_ne (tgt := 12) hC dX2_readInText_3 (by decide) h1 (inR_c _ rfl) ?_ ?_
  · refine s_aload_n hC dX2_readInText_12 rfl 0 rfl ?_
    refine s_get (b := b) hC hK (hJ.1 σ) (by decide) o_Pad rfl q_w_X2 5 (by decide) q_f_X2_28 rfl dX2_readInText_13 ?_
    refine s_aload_n hC dX2_readInText_16 rfl 0 rfl ?_
    refine s_get (b := b) hC hK (hJ.1 σ) (by decide) o_Pad rfl q_w_X2 2 (by decide) q_f_X2_19 rfl dX2_readInText_17 ?_
    refine s_iconst hC dX2_readInText_20 ?_
    refine s_isub hC dX2_readInText_21 ?_
    refine s_ck0 (fun v1 hv1 => ?_)
    refine s_callSN_P (As := [.ref (b + 4), vI v1]) (rest := []) hC hKA 2 (m_X4_at (hJ.1 σ) hσ (by decide) a_Pad_4 hv1) rfl (cn_of hC hKA 2 q_c_yX4_at q_i_X4 nwm_X2_44 rfl rfl dd_yX4_at ⟨Nat.le_of_ble_eq_true rfl, Nat.le_of_ble_eq_true rfl⟩) q_s_yX4_at rfl (Nat.le_of_ble_eq_true rfl) dX2_readInText_22 ⟨Nat.zero_le _, Nat.zero_le _⟩ (fun r2 hr2 => ?_)
    refine s_istore_n (L' := [(2, vI r2), (0, .ref (b + 0)), (1, vI a1)]) hC dX2_readInText_25 rfl (by decide) rfl ?_
    refine s_iload_n hC dX2_readInText_26 rfl 2 rfl ?_
    refine s_bipush hC dX2_readInText_27 (by decide) ?_
    refine s_icmp_lt (tgt := 44) hC dX2_readInText_29 (by decide) h1 (inR_c _ rfl) ?_ ?_
    · refine s_sub (L' := []) [] rfl ?_
      refine s_iconst hC dX2_readInText_44 ?_
      exact s_zret hC hr (Or.inl rfl) dX2_readInText_45 (fun H hH => ⟨rfl, (inR_c _ rfl), hσ, hH⟩)
    · refine s_sub (L' := [(0, .ref (b + 0)), (1, vI a1), (2, vI r2)]) [1, 2, 0] rfl ?_
      refine s_iload_n hC dX2_readInText_32 rfl 1 rfl ?_
      refine s_bipush hC dX2_readInText_33 (by decide) ?_
      refine s_icmp_gt (tgt := 44) hC dX2_readInText_35 (by decide) h1 (inR_c _ rfl) ?_ ?_
      · refine s_sub (L' := []) [] rfl ?_
        refine s_iconst hC dX2_readInText_44 ?_
        exact s_zret hC hr (Or.inl rfl) dX2_readInText_45 (fun H hH => ⟨rfl, (inR_c _ rfl), hσ, hH⟩)
      · refine s_sub (L' := [(0, .ref (b + 0)), (2, vI r2)]) [0, 2] rfl ?_
        refine s_iload_n hC dX2_readInText_38 rfl 1 rfl ?_
        refine s_bipush hC dX2_readInText_39 (by decide) ?_
        refine s_icmp_lt (tgt := 46) hC dX2_readInText_41 (by decide) hr2 (inR_c _ rfl) ?_ ?_
        · refine s_aload_n hC dX2_readInText_46 rfl 0 rfl ?_
          refine s_get (b := b) hC hK (hJ.1 σ) (by decide) o_Pad rfl q_w_X2 5 (by decide) q_f_X2_28 rfl dX2_readInText_47 ?_
          refine s_aload_n hC dX2_readInText_50 rfl 0 rfl ?_
          refine s_get (b := b) hC hK (hJ.1 σ) (by decide) o_Pad rfl q_w_X2 2 (by decide) q_f_X2_19 rfl dX2_readInText_51 ?_
          refine s_iconst hC dX2_readInText_54 ?_
          refine s_isub hC dX2_readInText_55 ?_
          refine s_iload_n hC dX2_readInText_56 rfl 1 rfl ?_
          refine s_iconst hC dX2_readInText_57 ?_
          refine s_iadd hC dX2_readInText_58 ?_
          refine s_ck1 (fun v3 hv3 => ?_)
          refine s_ck0 (fun v4 hv4 => ?_)
          refine s_callSN_U (As := [.ref (b + 4), vI v3, vI v4]) (rest := []) hC hKA 3 (m_X4_store hJ hσ (by decide) a_Pad_4 hv3 hv4) (fun _ h => h) rfl (cn_of hC hKA 3 q_c_yX4_store q_i_X4 nwm_X2_59 rfl rfl dd_yX4_store ⟨Nat.le_of_ble_eq_true rfl, Nat.le_of_ble_eq_true rfl⟩) q_s_yX4_store rfl (Nat.le_of_ble_eq_true rfl) dX2_readInText_59 ⟨Nat.zero_le _, Nat.zero_le _⟩ (fun σ5 hσ5 => ?_)
          refine s_iconst hC dX2_readInText_62 ?_
          exact s_zret hC hr (Or.inr rfl) dX2_readInText_63 (fun H hH => ⟨rfl, (inR_c _ rfl), hσ5, hH⟩)
        · refine s_sub (L' := []) [] rfl ?_
          refine s_iconst hC dX2_readInText_44 ?_
          exact s_zret hC hr (Or.inl rfl) dX2_readInText_45 (fun H hH => ⟨rfl, (inR_c _ rfl), hσ, hH⟩)
  · refine s_sub (L' := [(0, .ref (b + 0))]) [0] rfl ?_
    refine s_aload_n hC dX2_readInText_6 rfl 0 rfl ?_
    refine s_callV_U (As := []) (rest := []) (a := b + 0) hC hKA 0 (m_X2_awaitKey hJ hσ) (fun _ h => h) rfl (cb_of hC 0 q_c_yX2_awaitKey q_i_X2 q_m_X2_41 rfl rfl dd_yX2_awaitKey ⟨Nat.le_of_ble_eq_true rfl, Nat.le_of_ble_eq_true rfl⟩) q_i_yX2_awaitKey q_x_yX2_awaitKey (s_recv hK (hJ.1 σ) (by decide) o_Pad rfl) rfl (Nat.le_of_ble_eq_true rfl) dX2_readInText_7 ⟨Nat.zero_le _, Nat.zero_le _⟩ (fun σ6 hσ6 => ?_)
    refine s_iconst hC dX2_readInText_10 ?_
    exact s_zret hC hr (Or.inr rfl) dX2_readInText_11 (fun H hH => ⟨rfl, (inR_c _ rfl), hσ6, hH⟩)
set_option maxHeartbeats 4000000 in
set_option maxRecDepth 100000 in
theorem m_X2_startText {l : Launch} {G : Gt} {b : Nat} {σ : Blk} {J : Blk → Heap → Prop} (hJ : Wd G (layPad G b) 5 b J) (hσ : Rg σ) {a1 : Int} (h1 : inR a1) : MetS l yX2_startText cX2_startText 2 (some .boolean) { frames := 1, cells := 0, slots := 0, locals := 22 } G [.ref (b + 0), vI a1] (J σ) (poW J) (Ab b 5) 0 0 (g_X2_startText σ a1) := by
  refine met_of (by decide) (Nat.le_of_ble_eq_true rfl) ?_
  intro p e s m below meth c hC hKA hr _
  have hK := hKA.1
  unfold g_X2_startText
  refine s_sub (L' := [(0, .ref (b + 0)), (1, vI a1)]) [0, 1] rfl ?_
  refine s_aload_n hC dX2_startText_0 rfl 0 rfl ?_
  refine s_get (b := b) hC hK (hJ.1 σ) (by decide) o_Pad rfl q_w_X2 2 (by decide) q_f_X2_19 rfl dX2_startText_1 ?_
  refine s_bipush hC dX2_startText_4 (by decide) ?_
  refine s_icmp_lt (tgt := 11) hC dX2_startText_6 (by decide) (hσ 0 2) (inR_c _ rfl) ?_ ?_
  · refine s_aload_n hC dX2_startText_11 rfl 0 rfl ?_
    refine s_get (b := b) hC hK (hJ.1 σ) (by decide) o_Pad rfl q_w_X2 3 (by decide) q_f_X2_22 rfl dX2_startText_12 ?_
    refine s_aload_n hC dX2_startText_15 rfl 0 rfl ?_
    refine s_get (b := b) hC hK (hJ.1 σ) (by decide) o_Pad rfl q_w_X2 2 (by decide) q_f_X2_19 rfl dX2_startText_16 ?_
    refine s_aload_n hC dX2_startText_19 rfl 0 rfl ?_
    refine s_get (b := b) hC hK (hJ.1 σ) (by decide) o_Pad rfl q_w_X2 8 (by decide) q_f_X2_38 rfl dX2_startText_20 ?_
    refine s_callSN_U (As := [.ref (b + 2), vI (σ 0 2), vI (σ 0 8)]) (rest := []) hC hKA 3 (m_X4_store hJ hσ (by decide) a_Pad_2 (hσ 0 2) (hσ 0 8)) (fun _ h => h) rfl (cn_of hC hKA 3 q_c_yX4_store q_i_X4 nwm_X2_59 rfl rfl dd_yX4_store ⟨Nat.le_of_ble_eq_true rfl, Nat.le_of_ble_eq_true rfl⟩) q_s_yX4_store rfl (Nat.le_of_ble_eq_true rfl) dX2_startText_23 ⟨Nat.zero_le _, Nat.zero_le _⟩ (fun σ1 hσ1 => ?_)
    refine s_aload_n hC dX2_startText_26 rfl 0 rfl ?_
    refine s_get (b := b) hC hK (hJ.1 σ1) (by decide) o_Pad rfl q_w_X2 4 (by decide) q_f_X2_25 rfl dX2_startText_27 ?_
    refine s_aload_n hC dX2_startText_30 rfl 0 rfl ?_
    refine s_get (b := b) hC hK (hJ.1 σ1) (by decide) o_Pad rfl q_w_X2 2 (by decide) q_f_X2_19 rfl dX2_startText_31 ?_
    refine s_iload_n hC dX2_startText_34 rfl 1 rfl ?_
    refine s_callSN_U (As := [.ref (b + 3), vI (σ1 0 2), vI a1]) (rest := []) hC hKA 3 (m_X4_store hJ hσ1 (by decide) a_Pad_3 (hσ1 0 2) h1) (fun _ h => h) rfl (cn_of hC hKA 3 q_c_yX4_store q_i_X4 nwm_X2_59 rfl rfl dd_yX4_store ⟨Nat.le_of_ble_eq_true rfl, Nat.le_of_ble_eq_true rfl⟩) q_s_yX4_store rfl (Nat.le_of_ble_eq_true rfl) dX2_startText_35 ⟨Nat.zero_le _, Nat.zero_le _⟩ (fun σ2 hσ2 => ?_)
    refine s_aload_n hC dX2_startText_38 rfl 0 rfl ?_
    refine s_get (b := b) hC hK (hJ.1 σ2) (by decide) o_Pad rfl q_w_X2 5 (by decide) q_f_X2_28 rfl dX2_startText_39 ?_
    refine s_aload_n hC dX2_startText_42 rfl 0 rfl ?_
    refine s_get (b := b) hC hK (hJ.1 σ2) (by decide) o_Pad rfl q_w_X2 2 (by decide) q_f_X2_19 rfl dX2_startText_43 ?_
    refine s_iconst hC dX2_startText_46 ?_
    refine s_callSN_U (As := [.ref (b + 4), vI (σ2 0 2), vI 0]) (rest := []) hC hKA 3 (m_X4_store hJ hσ2 (by decide) a_Pad_4 (hσ2 0 2) (inR_c _ rfl)) (fun _ h => h) rfl (cn_of hC hKA 3 q_c_yX4_store q_i_X4 nwm_X2_59 rfl rfl dd_yX4_store ⟨Nat.le_of_ble_eq_true rfl, Nat.le_of_ble_eq_true rfl⟩) q_s_yX4_store rfl (Nat.le_of_ble_eq_true rfl) dX2_startText_47 ⟨Nat.zero_le _, Nat.zero_le _⟩ (fun σ3 hσ3 => ?_)
    refine s_aload_n hC dX2_startText_50 rfl 0 rfl ?_
    refine s_dup hC dX2_startText_51 rfl ?_
    refine s_get (b := b) hC hK (hJ.1 σ3) (by decide) o_Pad rfl q_w_X2 2 (by decide) q_f_X2_19 rfl dX2_startText_52 ?_
    refine s_iconst hC dX2_startText_55 ?_
    refine s_iadd hC dX2_startText_56 ?_
    refine s_ck0 (fun v4 hv4 => ?_)
    refine s_putP (ty := .int) hC hK hJ (fun _ h => h) hσ3 hv4 (by decide) o_Pad rfl q_w_X2 tyX2_ok nmX2 2 (by decide) q_f_X2_19 rfl (by decide +kernel) rfl rfl (fun _ => Nat.le_of_ble_eq_true rfl) u_Pad_2 dX2_startText_57 (fun σ5 hσ5 => ?_)
    refine s_aload_n hC dX2_startText_60 rfl 0 rfl ?_
    refine s_iconst hC dX2_startText_61 ?_
    refine s_putP (ty := .boolean) hC hK hJ (fun _ h => h) hσ5 (inR_c _ rfl) (by decide) o_Pad rfl q_w_X2 tyX2_ok nmX2 6 (by decide) q_f_X2_31 rfl (by decide +kernel) (by decide) (by decide) (fun _ => Nat.le_of_ble_eq_true rfl) u_Pad_6 dX2_startText_62 (fun σ6 hσ6 => ?_)
    refine s_iconst hC dX2_startText_65 ?_
    exact s_zret hC hr (Or.inr rfl) dX2_startText_66 (fun H hH => ⟨rfl, (inR_c _ rfl), hσ6, hH⟩)
  · refine s_sub (L' := []) [] rfl ?_
    refine s_iconst hC dX2_startText_9 ?_
    exact s_zret hC hr (Or.inl rfl) dX2_startText_10 (fun H hH => ⟨rfl, (inR_c _ rfl), hσ, hH⟩)
set_option maxHeartbeats 4000000 in
set_option maxRecDepth 100000 in
theorem m_X2_readInKey {l : Launch} {G : Gt} {b : Nat} {σ : Blk} {J : Blk → Heap → Prop} (hJ : Wd G (layPad G b) 5 b J) (hσ : Rg σ) {a1 : Int} (h1 : inR a1) {a2 : Int} (h2 : inR a2) : MetS l yX2_readInKey cX2_readInKey 4 (some .boolean) { frames := 2, cells := 0, slots := 0, locals := 43 } G [.ref (b + 0), vI a1, vI a2] (J σ) (poW J) (Ab b 5) 0 0 (g_X2_readInKey σ a1 a2) := by
  refine met_of (by decide) (Nat.le_of_ble_eq_true rfl) ?_
  intro p e s m below meth c hC hKA hr _
  have hK := hKA.1
  unfold g_X2_readInKey
  refine s_sub (L' := [(0, .ref (b + 0)), (1, vI a1), (2, vI a2)]) [0, 1, 2] rfl ?_
  refine s_iload_n hC dX2_readInKey_0 rfl 1 rfl ?_
  refine s_bipush hC dX2_readInKey_1 (by decide) ?_
  refine s_icmp_ne (tgt := 29) hC dX2_readInKey_3 (by decide) h1 (inR_c _ rfl) ?_ ?_
  · refine s_sub (L' := [(0, .ref (b + 0)), (1, vI a1)]) [0, 1] rfl ?_
    refine s_aload_n hC dX2_readInKey_29 rfl 0 rfl ?_
    refine s_get (b := b) hC hK (hJ.1 σ) (by decide) o_Pad rfl q_w_X2 7 (by decide) q_f_X2_35 rfl dX2_readInKey_30 ?_
    refine s_jp_I 48 (fun x2 => [(0, .ref (b + 0)), (1, vI a1)]) (fun x2 => [vI x2]) (fun x2 hx2 => ?_) (fun j1 hj1 => ?_)
    · refine s_istore_n (L' := [(3, vI x2), (0, .ref (b + 0)), (1, vI a1)]) hC dX2_readInKey_48 rfl (by decide) rfl ?_
      refine s_iload_n hC dX2_readInKey_49 rfl 2 rfl ?_
      refine s_bipush hC dX2_readInKey_50 (by decide) ?_
      refine s_icmp_lt (tgt := 65) hC dX2_readInKey_52 (by decide) h1 (inR_c _ rfl) ?_ ?_
      · refine s_sub (L' := []) [] rfl ?_
        refine s_iconst hC dX2_readInKey_65 ?_
        exact s_zret hC hr (Or.inl rfl) dX2_readInKey_66 (fun H hH => ⟨rfl, (inR_c _ rfl), hσ, hH⟩)
      · refine s_sub (L' := [(0, .ref (b + 0)), (1, vI a1), (3, vI x2)]) [1, 2, 0] rfl ?_
        refine s_iload_n hC dX2_readInKey_55 rfl 1 rfl ?_
        refine s_bipush hC dX2_readInKey_56 (by decide) ?_
        refine s_icmp_gt (tgt := 65) hC dX2_readInKey_58 (by decide) h1 (inR_c _ rfl) ?_ ?_
        · refine s_sub (L' := []) [] rfl ?_
          refine s_iconst hC dX2_readInKey_65 ?_
          exact s_zret hC hr (Or.inl rfl) dX2_readInKey_66 (fun H hH => ⟨rfl, (inR_c _ rfl), hσ, hH⟩)
        · refine s_iload_n hC dX2_readInKey_61 rfl 2 rfl ?_
          refine s_if_eq (tgt := 67) hC dX2_readInKey_62 (by decide) hx2 ?_ ?_
          · refine s_sub (L' := [(0, .ref (b + 0)), (1, vI a1)]) [0, 1] rfl ?_
            refine s_aload_n hC dX2_readInKey_67 rfl 0 rfl ?_
            refine s_aload_n hC dX2_readInKey_68 rfl 0 rfl ?_
            refine s_get (b := b) hC hK (hJ.1 σ) (by decide) o_Pad rfl q_w_X2 8 (by decide) q_f_X2_38 rfl dX2_readInKey_69 ?_
            refine s_bipush hC dX2_readInKey_72 (by decide) ?_
            refine s_imul hC dX2_readInKey_74 ?_
            refine s_iload_n hC dX2_readInKey_75 rfl 1 rfl ?_
            refine s_iadd hC dX2_readInKey_76 ?_
            refine s_bipush hC dX2_readInKey_77 (by decide) ?_
            refine s_isub hC dX2_readInKey_79 ?_
            refine s_ck0 (fun v3 hv3 => ?_)
            refine s_putP (ty := .int) hC hK hJ (fun _ h => h) hσ hv3 (by decide) o_Pad rfl q_w_X2 tyX2_ok nmX2 8 (by decide) q_f_X2_38 rfl (by decide +kernel) rfl rfl (fun _ => Nat.le_of_ble_eq_true rfl) u_Pad_8 dX2_readInKey_80 (fun σ4 hσ4 => ?_)
            refine s_aload_n hC dX2_readInKey_83 rfl 0 rfl ?_
            refine s_dup hC dX2_readInKey_84 rfl ?_
            refine s_get (b := b) hC hK (hJ.1 σ4) (by decide) o_Pad rfl q_w_X2 7 (by decide) q_f_X2_35 rfl dX2_readInKey_85 ?_
            refine s_iconst hC dX2_readInKey_88 ?_
            refine s_iadd hC dX2_readInKey_89 ?_
            refine s_ck0 (fun v5 hv5 => ?_)
            refine s_putP (ty := .int) hC hK hJ (fun _ h => h) hσ4 hv5 (by decide) o_Pad rfl q_w_X2 tyX2_ok nmX2 7 (by decide) q_f_X2_35 rfl (by decide +kernel) rfl rfl (fun _ => Nat.le_of_ble_eq_true rfl) u_Pad_7 dX2_readInKey_90 (fun σ6 hσ6 => ?_)
            refine s_aload_n hC dX2_readInKey_93 rfl 0 rfl ?_
            refine s_get (b := b) hC hK (hJ.1 σ6) (by decide) o_Pad rfl q_w_X2 8 (by decide) q_f_X2_38 rfl dX2_readInKey_94 ?_
            refine s_bipush hC dX2_readInKey_97 (by decide) ?_
            refine s_icmp_ge (tgt := 106) hC dX2_readInKey_99 (by decide) (hσ6 0 8) (inR_c _ rfl) ?_ ?_
            · refine s_sub (L' := []) [] rfl ?_
              refine s_iconst hC dX2_readInKey_106 ?_
              exact s_zret hC hr (Or.inl rfl) dX2_readInKey_107 (fun H hH => ⟨rfl, (inR_c _ rfl), hσ6, hH⟩)
            · refine s_sub (L' := []) [] rfl ?_
              refine s_iconst hC dX2_readInKey_102 ?_
              refine s_goto (tgt := 107) hC dX2_readInKey_103 (by decide) ?_
              exact s_zret hC hr (Or.inr rfl) dX2_readInKey_107 (fun H hH => ⟨rfl, (inR_c _ rfl), hσ6, hH⟩)
          · refine s_sub (L' := []) [] rfl ?_
            refine s_iconst hC dX2_readInKey_65 ?_
            exact s_zret hC hr (Or.inl rfl) dX2_readInKey_66 (fun H hH => ⟨rfl, (inR_c _ rfl), hσ, hH⟩)
    · refine s_if_le (tgt := 47) hC dX2_readInKey_33 (by decide) (hσ 0 7) ?_ ?_
      · refine s_iconst hC dX2_readInKey_47 ?_
        exact hj1 0 (inR_c _ rfl)
      · refine s_aload_n hC dX2_readInKey_36 rfl 0 rfl ?_
        refine s_get (b := b) hC hK (hJ.1 σ) (by decide) o_Pad rfl q_w_X2 8 (by decide) q_f_X2_38 rfl dX2_readInKey_37 ?_
        refine s_if_ne (tgt := 47) hC dX2_readInKey_40 (by decide) (hσ 0 8) ?_ ?_
        · refine s_iconst hC dX2_readInKey_47 ?_
          exact hj1 0 (inR_c _ rfl)
        · refine s_iconst hC dX2_readInKey_43 ?_
          refine s_goto (tgt := 48) hC dX2_readInKey_44 (by decide) ?_
          exact hj1 1 (inR_c _ rfl)
  · refine s_sub (L' := [(0, .ref (b + 0)), (2, vI a2)]) [0, 2] rfl ?_
    refine s_aload_n hC dX2_readInKey_6 rfl 0 rfl ?_
    refine s_get (b := b) hC hK (hJ.1 σ) (by decide) o_Pad rfl q_w_X2 7 (by decide) q_f_X2_35 rfl dX2_readInKey_7 ?_
    refine s_if_le (tgt := 27) hC dX2_readInKey_10 (by decide) (hσ 0 7) ?_ ?_
    · refine s_sub (L' := []) [] rfl ?_
      refine s_iconst hC dX2_readInKey_27 ?_
      exact s_zret hC hr (Or.inl rfl) dX2_readInKey_28 (fun H hH => ⟨rfl, (inR_c _ rfl), hσ, hH⟩)
    · refine s_aload_n hC dX2_readInKey_13 rfl 0 rfl ?_
      refine s_iload_n hC dX2_readInKey_14 rfl 1 rfl ?_
      refine s_iconst hC dX2_readInKey_15 ?_
      refine s_iadd hC dX2_readInKey_16 ?_
      refine s_ck0 (fun v7 hv7 => ?_)
      refine s_callV_W (As := [vI v7]) (rest := []) (a := b + 0) hC hKA 1 (m_X2_startText hJ hσ hv7) (fun _ h => h) rfl (cb_of hC 1 q_c_yX2_startText q_i_X2 q_m_X2_56 rfl rfl dd_yX2_startText ⟨Nat.le_of_ble_eq_true rfl, Nat.le_of_ble_eq_true rfl⟩) q_i_yX2_startText q_x_yX2_startText (s_recv hK (hJ.1 σ) (by decide) o_Pad rfl) rfl (Nat.le_of_ble_eq_true rfl) dX2_readInKey_17 ⟨Nat.zero_le _, Nat.zero_le _⟩ (fun r8 σ9 hr8 hσ9 => ?_)
      refine s_if_eq (tgt := 27) hC dX2_readInKey_20 (by decide) hr8 ?_ ?_
      · refine s_sub (L' := []) [] rfl ?_
        refine s_iconst hC dX2_readInKey_27 ?_
        exact s_zret hC hr (Or.inl rfl) dX2_readInKey_28 (fun H hH => ⟨rfl, (inR_c _ rfl), hσ9, hH⟩)
      · refine s_sub (L' := []) [] rfl ?_
        refine s_iconst hC dX2_readInKey_23 ?_
        refine s_goto (tgt := 28) hC dX2_readInKey_24 (by decide) ?_
        exact s_zret hC hr (Or.inr rfl) dX2_readInKey_28 (fun H hH => ⟨rfl, (inR_c _ rfl), hσ9, hH⟩)
set_option maxHeartbeats 4000000 in
set_option maxRecDepth 100000 in
theorem m_X2_read {l : Launch} {G : Gt} {b : Nat} {σ : Blk} {J : Blk → Heap → Prop} (hJ : Wd G (layPad G b) 5 b J) (hσ : Rg σ)  : MetS l yX2_read cX2_read 4 (some .int) { frames := 3, cells := 0, slots := 0, locals := 66 } G [.ref (b + 0)] (J σ) (poW J) (Ab b 5) 0 0 (g_X2_read σ) := by
  refine met_of (by decide) (Nat.le_of_ble_eq_true rfl) ?_
  intro p e s m below meth c hC hKA hr _
  have hK := hKA.1
  unfold g_X2_read
  refine s_sub (L' := [(0, .ref (b + 0))]) [0] rfl ?_
  refine s_aload_n hC dX2_read_0 rfl 0 rfl ?_
  refine s_iconst hC dX2_read_1 ?_
  refine s_putP (ty := .int) hC hK hJ (fun _ h => h) hσ (inR_c _ rfl) (by decide) o_Pad rfl q_w_X2 tyX2_ok nmX2 2 (by decide) q_f_X2_19 rfl (by decide +kernel) rfl rfl (fun _ => Nat.le_of_ble_eq_true rfl) u_Pad_2 dX2_read_2 (fun σ1 hσ1 => ?_)
  refine s_aload_n hC dX2_read_5 rfl 0 rfl ?_
  refine s_callV_U (As := []) (rest := []) (a := b + 0) hC hKA 0 (m_X2_awaitKey hJ hσ1) (fun _ h => h) rfl (cb_of hC 0 q_c_yX2_awaitKey q_i_X2 q_m_X2_41 rfl rfl dd_yX2_awaitKey ⟨Nat.le_of_ble_eq_true rfl, Nat.le_of_ble_eq_true rfl⟩) q_i_yX2_awaitKey q_x_yX2_awaitKey (s_recv hK (hJ.1 σ1) (by decide) o_Pad rfl) rfl (Nat.le_of_ble_eq_true rfl) dX2_read_6 ⟨Nat.zero_le _, Nat.zero_le _⟩ (fun σ2 hσ2 => ?_)
  refine s_iconst hC dX2_read_9 ?_
  refine s_istore_n (L' := [(1, vI 0), (0, .ref (b + 0))]) hC dX2_read_10 rfl (by decide) rfl ?_
  refine s_sub (L' := [(0, .ref (b + 0)), (1, vI 0)]) [1, 0] rfl ?_
  refine s_jp_B (J := J) 62 ([(0, .ref (b + 0))]) ([]) (fun σ4 hσ4 => ?_) (fun j3 hj3 => ?_)
  · refine s_aload_n hC dX2_read_62 rfl 0 rfl ?_
    refine s_get (b := b) hC hK (hJ.1 σ4) (by decide) o_Pad rfl q_w_X2 6 (by decide) q_f_X2_31 rfl dX2_read_63 ?_
    refine s_if_eq (tgt := 73) hC dX2_read_66 (by decide) (hσ4 0 6) ?_ ?_
    · refine s_aload_n hC dX2_read_73 rfl 0 rfl ?_
      refine s_get (b := b) hC hK (hJ.1 σ4) (by decide) o_Pad rfl q_w_X2 1 (by decide) q_f_X2_15 rfl dX2_read_74 ?_
      refine s_sub (L' := []) [] rfl ?_
      exact s_iret hC hr dX2_read_77 (fun H hH => ⟨rfl, (hσ4 0 1), hσ4, hH⟩)
    · refine s_sub (L' := []) [] rfl ?_
      refine s_iconst hC dX2_read_69 ?_
      refine s_goto (tgt := 77) hC dX2_read_70 (by decide) ?_
      exact s_iret hC hr dX2_read_77 (fun H hH => ⟨rfl, (inR_c _ rfl), hσ4, hH⟩)
  · refine s_lp_IB (J := J) (F := g_X2_read_L11 j3) 11 (fun x5 => [(0, .ref (b + 0)), (1, vI x5)]) (fun _ _ => rfl) (fun n ih11 x5 σ6 hx5 hσ6 => ?_) fu 0 σ2 (inR_c _ rfl) hσ2
    rw [g_X2_read_L11]
    refine s_iload_n hC dX2_read_11 rfl 1 rfl ?_
    refine s_aload_n hC dX2_read_12 rfl 0 rfl ?_
    refine s_get (b := b) hC hK (hJ.1 σ6) (by decide) o_Pad rfl q_w_X2 1 (by decide) q_f_X2_15 rfl dX2_read_13 ?_
    refine s_icmp_ge (tgt := 62) hC dX2_read_16 (by decide) hx5 (hσ6 0 1) ?_ ?_
    · refine s_sub (L' := [(0, .ref (b + 0))]) [0] rfl ?_
      exact hj3 σ6 hσ6
    · refine s_aload_n hC dX2_read_19 rfl 0 rfl ?_
      refine s_get (b := b) hC hK (hJ.1 σ6) (by decide) o_Pad rfl q_w_X2 0 (by decide) q_f_X2_9 rfl dX2_read_20 ?_
      refine s_iload_n hC dX2_read_23 rfl 1 rfl ?_
      refine s_callSN_P (As := [.ref (b + 1), vI x5]) (rest := []) hC hKA 2 (m_X4_at (hJ.1 σ6) hσ6 (by decide) a_Pad_1 hx5) rfl (cn_of hC hKA 2 q_c_yX4_at q_i_X4 nwm_X2_44 rfl rfl dd_yX4_at ⟨Nat.le_of_ble_eq_true rfl, Nat.le_of_ble_eq_true rfl⟩) q_s_yX4_at rfl (Nat.le_of_ble_eq_true rfl) dX2_read_24 ⟨Nat.zero_le _, Nat.zero_le _⟩ (fun r7 hr7 => ?_)
      refine s_istore_n (L' := [(2, vI r7), (0, .ref (b + 0)), (1, vI x5)]) hC dX2_read_27 rfl (by decide) rfl ?_
      refine s_aload_n hC dX2_read_28 rfl 1 rfl ?_
      refine s_get (b := b) hC hK (hJ.1 σ6) (by decide) o_Pad rfl q_w_X2 6 (by decide) q_f_X2_31 rfl dX2_read_29 ?_
      refine s_jp_IB (J := J) 49 (fun x9 => [(0, .ref (b + 0)), (1, vI x5)]) (fun x9 => [vI x9]) (fun x9 σ10 hx9 hσ10 => ?_) (fun j8 hj8 => ?_)
      · refine s_istore_n (L' := [(3, vI x9), (0, .ref (b + 0)), (1, vI x5)]) hC dX2_read_49 rfl (by decide) rfl ?_
        refine s_iload_n hC dX2_read_50 rfl 0 rfl ?_
        refine s_if_ne (tgt := 56) hC dX2_read_51 (by decide) hx9 ?_ ?_
        · refine s_sub (L' := [(0, .ref (b + 0)), (1, vI x5)]) [1, 2] rfl ?_
          refine s_iincK hC dX2_read_56 1 rfl (by decide) (fun v11 => [(1, vI v11), (0, .ref (b + 0))]) (fun _ => rfl) (fun v11 hv11 => ?_)
          refine s_goto (tgt := 11) hC dX2_read_59 (by decide) ?_
          refine s_sub (L' := [(0, .ref (b + 0)), (1, vI v11)]) [1, 0] rfl ?_
          exact ih11 v11 σ10 hv11 hσ10
        · refine s_sub (L' := [(1, vI x5)]) [2] rfl ?_
          refine s_iload_n hC dX2_read_54 rfl 0 rfl ?_
          exact s_iret hC hr dX2_read_55 (fun H hH => ⟨rfl, hx5, hσ10, hH⟩)
      · refine s_if_eq (tgt := 43) hC dX2_read_32 (by decide) (hσ6 0 6) ?_ ?_
        · refine s_sub (L' := [(0, .ref (b + 0)), (1, vI x5), (2, vI r7)]) [1, 2, 0] rfl ?_
          refine s_aload_n hC dX2_read_43 rfl 0 rfl ?_
          refine s_iload_n hC dX2_read_44 rfl 2 rfl ?_
          refine s_iload_n hC dX2_read_45 rfl 1 rfl ?_
          refine s_callV_W (As := [vI r7, vI x5]) (rest := []) (a := b + 0) hC hKA 2 (m_X2_readInKey hJ hσ6 hr7 hx5) (fun _ h => h) rfl (cb_of hC 2 q_c_yX2_readInKey q_i_X2 q_m_X2_52 rfl rfl dd_yX2_readInKey ⟨Nat.le_of_ble_eq_true rfl, Nat.le_of_ble_eq_true rfl⟩) q_i_yX2_readInKey q_x_yX2_readInKey (s_recv hK (hJ.1 σ6) (by decide) o_Pad rfl) rfl (Nat.le_of_ble_eq_true rfl) dX2_read_46 ⟨Nat.zero_le _, Nat.zero_le _⟩ (fun r12 σ13 hr12 hσ13 => ?_)
          refine s_sub (L' := [(0, .ref (b + 0)), (1, vI x5)]) [0, 1] rfl ?_
          exact hj8 r12 σ13 hr12 hσ13
        · refine s_sub (L' := [(0, .ref (b + 0)), (1, vI x5), (2, vI r7)]) [1, 2, 0] rfl ?_
          refine s_aload_n hC dX2_read_35 rfl 0 rfl ?_
          refine s_iload_n hC dX2_read_36 rfl 2 rfl ?_
          refine s_callV_W (As := [vI r7]) (rest := []) (a := b + 0) hC hKA 1 (m_X2_readInText hJ hσ6 hr7) (fun _ h => h) rfl (cb_of hC 1 q_c_yX2_readInText q_i_X2 q_m_X2_48 rfl rfl dd_yX2_readInText ⟨Nat.le_of_ble_eq_true rfl, Nat.le_of_ble_eq_true rfl⟩) q_i_yX2_readInText q_x_yX2_readInText (s_recv hK (hJ.1 σ6) (by decide) o_Pad rfl) rfl (Nat.le_of_ble_eq_true rfl) dX2_read_37 ⟨Nat.zero_le _, Nat.zero_le _⟩ (fun r14 σ15 hr14 hσ15 => ?_)
          refine s_goto (tgt := 49) hC dX2_read_40 (by decide) ?_
          refine s_sub (L' := [(0, .ref (b + 0)), (1, vI x5)]) [0, 1] rfl ?_
          exact hj8 r14 σ15 hr14 hσ15
