set_option maxHeartbeats 4000000 in
set_option maxRecDepth 100000 in
theorem m_X2_awaitKey {l : Launch} {G : Gt} {b : Nat} {σ : Blk} {J : Blk → Heap → Prop} (hJ : Wd G (layPad G b) 5 b J) (hσ : Rg σ)  : MetS l yX2_awaitKey cX2_awaitKey 1 none { frames := 0, cells := 0, slots := 0, locals := 0 } G [.ref (b + 0)] (J σ) (poU J) (Ab b 5) 0 0 (f_X2_awaitKey σ) := by
  refine met_of (by decide) (Nat.le_of_ble_eq_true rfl) ?_
  intro p e s m below meth c hC hKA hr _
  have hK := hKA.1
  unfold f_X2_awaitKey
  refine s_sub (L' := [(0, .ref (b + 0))]) [0] rfl ?_
  refine s_aload_n hC dX2_awaitKey_0 rfl 0 rfl ?_
  refine s_iconst hC dX2_awaitKey_1 ?_
  refine s_putP (ty := .boolean) hC hK hJ (fun _ h => h) hσ (inR_c _ rfl) (by decide) o_Pad rfl q_w_X2 tyX2_ok nmX2 6 (by decide) q_f_X2_31 rfl (by decide +kernel) (by decide) (by decide) (fun _ => Nat.le_of_ble_eq_true rfl) u_Pad_6 dX2_awaitKey_2 (fun σ1 hσ1 => ?_)
  refine s_aload_n hC dX2_awaitKey_5 rfl 0 rfl ?_
  refine s_iconst hC dX2_awaitKey_6 ?_
  refine s_putP (ty := .int) hC hK hJ (fun _ h => h) hσ1 (inR_c _ rfl) (by decide) o_Pad rfl q_w_X2 tyX2_ok nmX2 7 (by decide) q_f_X2_35 rfl (by decide +kernel) rfl rfl (fun _ => Nat.le_of_ble_eq_true rfl) u_Pad_7 dX2_awaitKey_7 (fun σ2 hσ2 => ?_)
  refine s_aload_n hC dX2_awaitKey_10 rfl 0 rfl ?_
  refine s_iconst hC dX2_awaitKey_11 ?_
  refine s_putP (ty := .int) hC hK hJ (fun _ h => h) hσ2 (inR_c _ rfl) (by decide) o_Pad rfl q_w_X2 tyX2_ok nmX2 8 (by decide) q_f_X2_38 rfl (by decide +kernel) rfl rfl (fun _ => Nat.le_of_ble_eq_true rfl) u_Pad_8 dX2_awaitKey_12 (fun σ3 hσ3 => ?_)
  exact s_vret hC hr dX2_awaitKey_15 (fun H hH => ⟨rfl, hσ3, hH⟩)
set_option maxHeartbeats 4000000 in
set_option maxRecDepth 100000 in
theorem m_X2_readInText {l : Launch} {G : Gt} {b : Nat} {σ : Blk} {J : Blk → Heap → Prop} (hJ : Wd G (layPad G b) 5 b J) (hσ : Rg σ) {a1 : Int} (h1 : inR a1) : MetS l yX2_readInText cX2_readInText 3 (some .boolean) { frames := 1, cells := 0, slots := 0, locals := 20 } G [.ref (b + 0), vI a1] (J σ) (poW J) (Ab b 5) 0 0 (f_X2_readInText σ a1) := by
  refine met_of (by decide) (Nat.le_of_ble_eq_true rfl) ?_
  intro p e s m below meth c hC hKA hr _
  have hK := hKA.1
  unfold f_X2_readInText
  refine s_sub (L' := [(0, .ref (b + 0)), (1, vI a1)]) [0, 1] rfl ?_
  refine s_iload_n hC dX2_readInText_0 rfl 1 rfl ?_
  refine s_bipush hC dX2_readInText_1 (by decide) ?_
  refine s_icmp_ne (tgt := 12) hC dX2_readInText_3 (by decide) h1 (inR_c _ rfl) ?_ ?_
  · refine s_aload_n hC dX2_readInText_12 rfl 0 rfl ?_
    refine s_get (b := b) hC hK (hJ.1 σ) (by decide) o_Pad rfl q_w_X2 2 (by decide) q_f_X2_19 rfl dX2_readInText_13 ?_
    refine s_iconst hC dX2_readInText_16 ?_
    refine s_isub hC dX2_readInText_17 ?_
    refine s_ck0 (fun v1 hv1 => ?_)
    refine s_istore_n (L' := [(2, vI v1), (0, .ref (b + 0)), (1, vI a1)]) hC dX2_readInText_18 rfl (by decide) rfl ?_
    refine s_iload_n hC dX2_readInText_19 rfl 2 rfl ?_
    refine s_bipush hC dX2_readInText_20 (by decide) ?_
    refine s_icmp_lt (tgt := 46) hC dX2_readInText_22 (by decide) h1 (inR_c _ rfl) ?_ ?_
    · refine s_sub (L' := []) [] rfl ?_
      refine s_iconst hC dX2_readInText_46 ?_
      exact s_zret hC hr (Or.inl rfl) dX2_readInText_47 (fun H hH => ⟨rfl, (inR_c _ rfl), hσ, hH⟩)
    · refine s_sub (L' := [(0, .ref (b + 0)), (1, vI a1), (2, vI v1)]) [1, 2, 0] rfl ?_
      refine s_iload_n hC dX2_readInText_25 rfl 1 rfl ?_
      refine s_bipush hC dX2_readInText_26 (by decide) ?_
      refine s_icmp_gt (tgt := 46) hC dX2_readInText_28 (by decide) h1 (inR_c _ rfl) ?_ ?_
      · refine s_sub (L' := []) [] rfl ?_
        refine s_iconst hC dX2_readInText_46 ?_
        exact s_zret hC hr (Or.inl rfl) dX2_readInText_47 (fun H hH => ⟨rfl, (inR_c _ rfl), hσ, hH⟩)
      · refine s_sub (L' := [(0, .ref (b + 0)), (2, vI v1)]) [0, 2] rfl ?_
        refine s_iload_n hC dX2_readInText_31 rfl 1 rfl ?_
        refine s_if_lt (tgt := 46) hC dX2_readInText_32 (by decide) hv1 ?_ ?_
        · refine s_sub (L' := []) [] rfl ?_
          refine s_iconst hC dX2_readInText_46 ?_
          exact s_zret hC hr (Or.inl rfl) dX2_readInText_47 (fun H hH => ⟨rfl, (inR_c _ rfl), hσ, hH⟩)
        · refine s_aload_n hC dX2_readInText_35 rfl 0 rfl ?_
          refine s_get (b := b) hC hK (hJ.1 σ) (by decide) o_Pad rfl q_w_X2 5 (by decide) q_f_X2_28 rfl dX2_readInText_36 ?_
          refine s_iload_n hC dX2_readInText_39 rfl 1 rfl ?_
          refine s_iaload hC hK (hJ.1 σ) hσ (by decide) a_Pad_4 dX2_readInText_40 (fun v2 hv2 => ?_)
          refine s_bipush hC dX2_readInText_41 (by decide) ?_
          refine s_icmp_lt (tgt := 48) hC dX2_readInText_43 (by decide) hv2 (inR_c _ rfl) ?_ ?_
          · refine s_aload_n hC dX2_readInText_48 rfl 0 rfl ?_
            refine s_get (b := b) hC hK (hJ.1 σ) (by decide) o_Pad rfl q_w_X2 5 (by decide) q_f_X2_28 rfl dX2_readInText_49 ?_
            refine s_iload_n hC dX2_readInText_52 rfl 1 rfl ?_
            refine s_dup2 hC dX2_readInText_53 rfl rfl ?_
            refine s_iaload hC hK (hJ.1 σ) hσ (by decide) a_Pad_4 dX2_readInText_54 (fun v3 hv3 => ?_)
            refine s_iconst hC dX2_readInText_55 ?_
            refine s_iadd hC dX2_readInText_56 ?_
            refine s_ck0 (fun v4 hv4 => ?_)
            refine s_iastore hC hK hJ (fun _ h => h) hσ hv4 (by decide) a_Pad_4 dX2_readInText_57 (fun σ5 hσ5 => ?_)
            refine s_iconst hC dX2_readInText_58 ?_
            exact s_zret hC hr (Or.inr rfl) dX2_readInText_59 (fun H hH => ⟨rfl, (inR_c _ rfl), hσ5, hH⟩)
          · refine s_sub (L' := []) [] rfl ?_
            refine s_iconst hC dX2_readInText_46 ?_
            exact s_zret hC hr (Or.inl rfl) dX2_readInText_47 (fun H hH => ⟨rfl, (inR_c _ rfl), hσ, hH⟩)
  · refine s_sub (L' := [(0, .ref (b + 0))]) [0] rfl ?_
    refine s_aload_n hC dX2_readInText_6 rfl 0 rfl ?_
    refine s_callV_U (As := []) (rest := []) (a := b + 0) hC hKA 0 (m_X2_awaitKey hJ hσ) (fun _ h => h) rfl (cb_of hC 0 q_c_yX2_awaitKey q_i_X2 q_m_X2_41 rfl rfl dd_yX2_awaitKey ⟨Nat.le_of_ble_eq_true rfl, Nat.le_of_ble_eq_true rfl⟩) q_i_yX2_awaitKey q_x_yX2_awaitKey (s_recv hK (hJ.1 σ) (by decide) o_Pad rfl) rfl (Nat.le_of_ble_eq_true rfl) dX2_readInText_7 ⟨Nat.zero_le _, Nat.zero_le _⟩ (fun σ6 hσ6 => ?_)
    refine s_iconst hC dX2_readInText_10 ?_
    exact s_zret hC hr (Or.inr rfl) dX2_readInText_11 (fun H hH => ⟨rfl, (inR_c _ rfl), hσ6, hH⟩)
set_option maxHeartbeats 4000000 in
set_option maxRecDepth 100000 in
theorem m_X2_startText {l : Launch} {G : Gt} {b : Nat} {σ : Blk} {J : Blk → Heap → Prop} (hJ : Wd G (layPad G b) 5 b J) (hσ : Rg σ) {a1 : Int} (h1 : inR a1) : MetS l yX2_startText cX2_startText 2 (some .boolean) { frames := 0, cells := 0, slots := 0, locals := 0 } G [.ref (b + 0), vI a1] (J σ) (poW J) (Ab b 5) 0 0 (f_X2_startText σ a1) := by
  refine met_of (by decide) (Nat.le_of_ble_eq_true rfl) ?_
  intro p e s m below meth c hC hKA hr _
  have hK := hKA.1
  unfold f_X2_startText
  refine s_sub (L' := [(0, .ref (b + 0)), (1, vI a1)]) [0, 1] rfl ?_
  refine s_aload_n hC dX2_startText_0 rfl 0 rfl ?_
  refine s_get (b := b) hC hK (hJ.1 σ) (by decide) o_Pad rfl q_w_X2 2 (by decide) q_f_X2_19 rfl dX2_startText_1 ?_
  refine s_bipush hC dX2_startText_4 (by decide) ?_
  refine s_icmp_lt (tgt := 11) hC dX2_startText_6 (by decide) (hσ 0 2) (inR_c _ rfl) ?_ ?_
  · refine s_aload_n hC dX2_startText_11 rfl 0 rfl ?_
    refine s_get (b := b) hC hK (hJ.1 σ) (by decide) o_Pad rfl q_w_X2 3 (by decide) q_f_X2_22 rfl dX2_startText_12 ?_
    refine s_aload_n hC dX2_startText_15 rfl 0 rfl ?_
    refine s_get (b := b) hC hK (hJ.1 σ) (by decide) o_Pad rfl q_w_X2 2 (by decide) q_f_X2_19 rfl dX2_startText_16 ?_
    refine s_aload_n hC dX2_startText_19 rfl 0 rfl ?_
    refine s_get (b := b) hC hK (hJ.1 σ) (by decide) o_Pad rfl q_w_X2 8 (by decide) q_f_X2_38 rfl dX2_startText_20 ?_
    refine s_iastore hC hK hJ (fun _ h => h) hσ (hσ 0 8) (by decide) a_Pad_2 dX2_startText_23 (fun σ1 hσ1 => ?_)
    refine s_aload_n hC dX2_startText_24 rfl 0 rfl ?_
    refine s_get (b := b) hC hK (hJ.1 σ1) (by decide) o_Pad rfl q_w_X2 4 (by decide) q_f_X2_25 rfl dX2_startText_25 ?_
    refine s_aload_n hC dX2_startText_28 rfl 0 rfl ?_
    refine s_get (b := b) hC hK (hJ.1 σ1) (by decide) o_Pad rfl q_w_X2 2 (by decide) q_f_X2_19 rfl dX2_startText_29 ?_
    refine s_iload_n hC dX2_startText_32 rfl 1 rfl ?_
    refine s_iastore hC hK hJ (fun _ h => h) hσ1 h1 (by decide) a_Pad_3 dX2_startText_33 (fun σ2 hσ2 => ?_)
    refine s_aload_n hC dX2_startText_34 rfl 0 rfl ?_
    refine s_get (b := b) hC hK (hJ.1 σ2) (by decide) o_Pad rfl q_w_X2 5 (by decide) q_f_X2_28 rfl dX2_startText_35 ?_
    refine s_aload_n hC dX2_startText_38 rfl 0 rfl ?_
    refine s_get (b := b) hC hK (hJ.1 σ2) (by decide) o_Pad rfl q_w_X2 2 (by decide) q_f_X2_19 rfl dX2_startText_39 ?_
    refine s_iconst hC dX2_startText_42 ?_
    refine s_iastore hC hK hJ (fun _ h => h) hσ2 (inR_c _ rfl) (by decide) a_Pad_4 dX2_startText_43 (fun σ3 hσ3 => ?_)
    refine s_aload_n hC dX2_startText_44 rfl 0 rfl ?_
    refine s_dup hC dX2_startText_45 rfl ?_
    refine s_get (b := b) hC hK (hJ.1 σ3) (by decide) o_Pad rfl q_w_X2 2 (by decide) q_f_X2_19 rfl dX2_startText_46 ?_
    refine s_iconst hC dX2_startText_49 ?_
    refine s_iadd hC dX2_startText_50 ?_
    refine s_ck0 (fun v4 hv4 => ?_)
    refine s_putP (ty := .int) hC hK hJ (fun _ h => h) hσ3 hv4 (by decide) o_Pad rfl q_w_X2 tyX2_ok nmX2 2 (by decide) q_f_X2_19 rfl (by decide +kernel) rfl rfl (fun _ => Nat.le_of_ble_eq_true rfl) u_Pad_2 dX2_startText_51 (fun σ5 hσ5 => ?_)
    refine s_aload_n hC dX2_startText_54 rfl 0 rfl ?_
    refine s_iconst hC dX2_startText_55 ?_
    refine s_putP (ty := .boolean) hC hK hJ (fun _ h => h) hσ5 (inR_c _ rfl) (by decide) o_Pad rfl q_w_X2 tyX2_ok nmX2 6 (by decide) q_f_X2_31 rfl (by decide +kernel) (by decide) (by decide) (fun _ => Nat.le_of_ble_eq_true rfl) u_Pad_6 dX2_startText_56 (fun σ6 hσ6 => ?_)
    refine s_iconst hC dX2_startText_59 ?_
    exact s_zret hC hr (Or.inr rfl) dX2_startText_60 (fun H hH => ⟨rfl, (inR_c _ rfl), hσ6, hH⟩)
  · refine s_sub (L' := []) [] rfl ?_
    refine s_iconst hC dX2_startText_9 ?_
    exact s_zret hC hr (Or.inl rfl) dX2_startText_10 (fun H hH => ⟨rfl, (inR_c _ rfl), hσ, hH⟩)
set_option maxHeartbeats 4000000 in
set_option maxRecDepth 100000 in
theorem m_X2_readInKey {l : Launch} {G : Gt} {b : Nat} {σ : Blk} {J : Blk → Heap → Prop} (hJ : Wd G (layPad G b) 5 b J) (hσ : Rg σ) {a1 : Int} (h1 : inR a1) {a2 : Int} (h2 : inR a2) : MetS l yX2_readInKey cX2_readInKey 4 (some .boolean) { frames := 1, cells := 0, slots := 0, locals := 21 } G [.ref (b + 0), vI a1, vI a2] (J σ) (poW J) (Ab b 5) 0 0 (f_X2_readInKey σ a1 a2) := by
  refine met_of (by decide) (Nat.le_of_ble_eq_true rfl) ?_
  intro p e s m below meth c hC hKA hr _
  have hK := hKA.1
  unfold f_X2_readInKey
  refine s_sub (L' := [(0, .ref (b + 0)), (1, vI a1), (2, vI a2)]) [0, 1, 2] rfl ?_
  refine s_iload_n hC dX2_readInKey_0 rfl 2 rfl ?_
  refine s_bipush hC dX2_readInKey_1 (by decide) ?_
  refine s_icmp_ne (tgt := 29) hC dX2_readInKey_3 (by decide) h2 (inR_c _ rfl) ?_ ?_
  · refine s_sub (L' := [(0, .ref (b + 0)), (2, vI a2)]) [0, 2] rfl ?_
    refine s_aload_n hC dX2_readInKey_29 rfl 0 rfl ?_
    refine s_get (b := b) hC hK (hJ.1 σ) (by decide) o_Pad rfl q_w_X2 7 (by decide) q_f_X2_35 rfl dX2_readInKey_30 ?_
    refine s_jp_I 48 (fun x2 => [(0, .ref (b + 0)), (2, vI a2)]) (fun x2 => [vI x2]) (fun x2 hx2 => ?_) (fun j1 hj1 => ?_)
    · refine s_istore_n (L' := [(3, vI x2), (0, .ref (b + 0)), (2, vI a2)]) hC dX2_readInKey_48 rfl (by decide) rfl ?_
      refine s_iload_n hC dX2_readInKey_49 rfl 2 rfl ?_
      refine s_bipush hC dX2_readInKey_50 (by decide) ?_
      refine s_icmp_lt (tgt := 65) hC dX2_readInKey_52 (by decide) h2 (inR_c _ rfl) ?_ ?_
      · refine s_sub (L' := []) [] rfl ?_
        refine s_iconst hC dX2_readInKey_65 ?_
        exact s_zret hC hr (Or.inl rfl) dX2_readInKey_66 (fun H hH => ⟨rfl, (inR_c _ rfl), hσ, hH⟩)
      · refine s_sub (L' := [(0, .ref (b + 0)), (2, vI a2), (3, vI x2)]) [1, 2, 0] rfl ?_
        refine s_iload_n hC dX2_readInKey_55 rfl 1 rfl ?_
        refine s_bipush hC dX2_readInKey_56 (by decide) ?_
        refine s_icmp_gt (tgt := 65) hC dX2_readInKey_58 (by decide) h2 (inR_c _ rfl) ?_ ?_
        · refine s_sub (L' := []) [] rfl ?_
          refine s_iconst hC dX2_readInKey_65 ?_
          exact s_zret hC hr (Or.inl rfl) dX2_readInKey_66 (fun H hH => ⟨rfl, (inR_c _ rfl), hσ, hH⟩)
        · refine s_iload_n hC dX2_readInKey_61 rfl 2 rfl ?_
          refine s_if_eq (tgt := 67) hC dX2_readInKey_62 (by decide) hx2 ?_ ?_
          · refine s_sub (L' := [(0, .ref (b + 0)), (2, vI a2)]) [0, 1] rfl ?_
            refine s_aload_n hC dX2_readInKey_67 rfl 0 rfl ?_
            refine s_aload_n hC dX2_readInKey_68 rfl 0 rfl ?_
            refine s_get (b := b) hC hK (hJ.1 σ) (by decide) o_Pad rfl q_w_X2 8 (by decide) q_f_X2_38 rfl dX2_readInKey_69 ?_
            refine s_bipush hC dX2_readInKey_72 (by decide) ?_
            refine s_imul hC dX2_readInKey_74 ?_
            refine s_iload_n hC dX2_readInKey_75 rfl 1 rfl ?_
            refine s_iadd hC dX2_readInKey_76 ?_
            refine s_bipush hC dX2_readInKey_77 (by decide) ?_
            refine s_isub hC dX2_readInKey_79 ?_
            refine s_ck0 (fun v3 hv3 => ?_)
            refine s_putP (ty := .int) hC hK hJ (fun _ h => h) hσ hv3 (by decide) o_Pad rfl q_w_X2 tyX2_ok nmX2 8 (by decide) q_f_X2_38 rfl (by decide +kernel) rfl rfl (fun _ => Nat.le_of_ble_eq_true rfl) u_Pad_8 dX2_readInKey_80 (fun σ4 hσ4 => ?_)
            refine s_aload_n hC dX2_readInKey_83 rfl 0 rfl ?_
            refine s_dup hC dX2_readInKey_84 rfl ?_
            refine s_get (b := b) hC hK (hJ.1 σ4) (by decide) o_Pad rfl q_w_X2 7 (by decide) q_f_X2_35 rfl dX2_readInKey_85 ?_
            refine s_iconst hC dX2_readInKey_88 ?_
            refine s_iadd hC dX2_readInKey_89 ?_
            refine s_ck0 (fun v5 hv5 => ?_)
            refine s_putP (ty := .int) hC hK hJ (fun _ h => h) hσ4 hv5 (by decide) o_Pad rfl q_w_X2 tyX2_ok nmX2 7 (by decide) q_f_X2_35 rfl (by decide +kernel) rfl rfl (fun _ => Nat.le_of_ble_eq_true rfl) u_Pad_7 dX2_readInKey_90 (fun σ6 hσ6 => ?_)
            refine s_aload_n hC dX2_readInKey_93 rfl 0 rfl ?_
            refine s_get (b := b) hC hK (hJ.1 σ6) (by decide) o_Pad rfl q_w_X2 8 (by decide) q_f_X2_38 rfl dX2_readInKey_94 ?_
            refine s_bipush hC dX2_readInKey_97 (by decide) ?_
            refine s_icmp_ge (tgt := 106) hC dX2_readInKey_99 (by decide) (hσ6 0 8) (inR_c _ rfl) ?_ ?_
            · refine s_sub (L' := []) [] rfl ?_
              refine s_iconst hC dX2_readInKey_106 ?_
              exact s_zret hC hr (Or.inl rfl) dX2_readInKey_107 (fun H hH => ⟨rfl, (inR_c _ rfl), hσ6, hH⟩)
            · refine s_sub (L' := []) [] rfl ?_
              refine s_iconst hC dX2_readInKey_102 ?_
              refine s_goto (tgt := 107) hC dX2_readInKey_103 (by decide) ?_
              exact s_zret hC hr (Or.inr rfl) dX2_readInKey_107 (fun H hH => ⟨rfl, (inR_c _ rfl), hσ6, hH⟩)
          · refine s_sub (L' := []) [] rfl ?_
            refine s_iconst hC dX2_readInKey_65 ?_
            exact s_zret hC hr (Or.inl rfl) dX2_readInKey_66 (fun H hH => ⟨rfl, (inR_c _ rfl), hσ, hH⟩)
    · refine s_if_le (tgt := 47) hC dX2_readInKey_33 (by decide) (hσ 0 7) ?_ ?_
      · refine s_iconst hC dX2_readInKey_47 ?_
        exact hj1 0 (inR_c _ rfl)
      · refine s_aload_n hC dX2_readInKey_36 rfl 0 rfl ?_
        refine s_get (b := b) hC hK (hJ.1 σ) (by decide) o_Pad rfl q_w_X2 8 (by decide) q_f_X2_38 rfl dX2_readInKey_37 ?_
        refine s_if_ne (tgt := 47) hC dX2_readInKey_40 (by decide) (hσ 0 8) ?_ ?_
        · refine s_iconst hC dX2_readInKey_47 ?_
          exact hj1 0 (inR_c _ rfl)
        · refine s_iconst hC dX2_readInKey_43 ?_
          refine s_goto (tgt := 48) hC dX2_readInKey_44 (by decide) ?_
          exact hj1 1 (inR_c _ rfl)
  · refine s_sub (L' := [(0, .ref (b + 0)), (1, vI a1)]) [0, 1] rfl ?_
    refine s_aload_n hC dX2_readInKey_6 rfl 0 rfl ?_
    refine s_get (b := b) hC hK (hJ.1 σ) (by decide) o_Pad rfl q_w_X2 7 (by decide) q_f_X2_35 rfl dX2_readInKey_7 ?_
    refine s_if_le (tgt := 27) hC dX2_readInKey_10 (by decide) (hσ 0 7) ?_ ?_
    · refine s_sub (L' := []) [] rfl ?_
      refine s_iconst hC dX2_readInKey_27 ?_
      exact s_zret hC hr (Or.inl rfl) dX2_readInKey_28 (fun H hH => ⟨rfl, (inR_c _ rfl), hσ, hH⟩)
    · refine s_aload_n hC dX2_readInKey_13 rfl 0 rfl ?_
      refine s_iload_n hC dX2_readInKey_14 rfl 1 rfl ?_
      refine s_iconst hC dX2_readInKey_15 ?_
      refine s_iadd hC dX2_readInKey_16 ?_
      refine s_ck0 (fun v7 hv7 => ?_)
      refine s_callV_W (As := [vI v7]) (rest := []) (a := b + 0) hC hKA 1 (m_X2_startText hJ hσ hv7) (fun _ h => h) rfl (cb_of hC 1 q_c_yX2_startText q_i_X2 q_m_X2_52 rfl rfl dd_yX2_startText ⟨Nat.le_of_ble_eq_true rfl, Nat.le_of_ble_eq_true rfl⟩) q_i_yX2_startText q_x_yX2_startText (s_recv hK (hJ.1 σ) (by decide) o_Pad rfl) rfl (Nat.le_of_ble_eq_true rfl) dX2_readInKey_17 ⟨Nat.zero_le _, Nat.zero_le _⟩ (fun r8 σ9 hr8 hσ9 => ?_)
      refine s_if_eq (tgt := 27) hC dX2_readInKey_20 (by decide) hr8 ?_ ?_
      · refine s_sub (L' := []) [] rfl ?_
        refine s_iconst hC dX2_readInKey_27 ?_
        exact s_zret hC hr (Or.inl rfl) dX2_readInKey_28 (fun H hH => ⟨rfl, (inR_c _ rfl), hσ9, hH⟩)
      · refine s_sub (L' := []) [] rfl ?_
        refine s_iconst hC dX2_readInKey_23 ?_
        refine s_goto (tgt := 28) hC dX2_readInKey_24 (by decide) ?_
        exact s_zret hC hr (Or.inr rfl) dX2_readInKey_28 (fun H hH => ⟨rfl, (inR_c _ rfl), hσ9, hH⟩)
set_option maxHeartbeats 4000000 in
set_option maxRecDepth 100000 in
theorem m_X2_read {l : Launch} {G : Gt} {b : Nat} {σ : Blk} {J : Blk → Heap → Prop} (hJ : Wd G (layPad G b) 5 b J) (hσ : Rg σ)  : MetS l yX2_read cX2_read 3 (some .int) { frames := 2, cells := 0, slots := 0, locals := 44 } G [.ref (b + 0)] (J σ) (poW J) (Ab b 5) 0 0 (f_X2_read σ) := by
  refine met_of (by decide) (Nat.le_of_ble_eq_true rfl) ?_
  intro p e s m below meth c hC hKA hr _
  have hK := hKA.1
  unfold f_X2_read
  refine s_sub (L' := [(0, .ref (b + 0))]) [0] rfl ?_
  refine s_aload_n hC dX2_read_0 rfl 0 rfl ?_
  refine s_iconst hC dX2_read_1 ?_
  refine s_putP (ty := .int) hC hK hJ (fun _ h => h) hσ (inR_c _ rfl) (by decide) o_Pad rfl q_w_X2 tyX2_ok nmX2 2 (by decide) q_f_X2_19 rfl (by decide +kernel) rfl rfl (fun _ => Nat.le_of_ble_eq_true rfl) u_Pad_2 dX2_read_2 (fun σ1 hσ1 => ?_)
  refine s_aload_n hC dX2_read_5 rfl 0 rfl ?_
  refine s_callV_U (As := []) (rest := []) (a := b + 0) hC hKA 0 (m_X2_awaitKey hJ hσ1) (fun _ h => h) rfl (cb_of hC 0 q_c_yX2_awaitKey q_i_X2 q_m_X2_41 rfl rfl dd_yX2_awaitKey ⟨Nat.le_of_ble_eq_true rfl, Nat.le_of_ble_eq_true rfl⟩) q_i_yX2_awaitKey q_x_yX2_awaitKey (s_recv hK (hJ.1 σ1) (by decide) o_Pad rfl) rfl (Nat.le_of_ble_eq_true rfl) dX2_read_6 ⟨Nat.zero_le _, Nat.zero_le _⟩ (fun σ2 hσ2 => ?_)
  refine s_iconst hC dX2_read_9 ?_
  refine s_istore_n (L' := [(1, vI 0), (0, .ref (b + 0))]) hC dX2_read_10 rfl (by decide) rfl ?_
  refine s_sub (L' := [(0, .ref (b + 0)), (1, vI 0)]) [1, 0] rfl ?_
  refine s_jp_B (J := J) 63 ([(0, .ref (b + 0))]) ([]) (fun σ4 hσ4 => ?_) (fun j3 hj3 => ?_)
  · refine s_aload_n hC dX2_read_63 rfl 0 rfl ?_
    refine s_get (b := b) hC hK (hJ.1 σ4) (by decide) o_Pad rfl q_w_X2 6 (by decide) q_f_X2_31 rfl dX2_read_64 ?_
    refine s_if_eq (tgt := 74) hC dX2_read_67 (by decide) (hσ4 0 6) ?_ ?_
    · refine s_aload_n hC dX2_read_74 rfl 0 rfl ?_
      refine s_get (b := b) hC hK (hJ.1 σ4) (by decide) o_Pad rfl q_w_X2 1 (by decide) q_f_X2_15 rfl dX2_read_75 ?_
      refine s_sub (L' := []) [] rfl ?_
      exact s_iret hC hr dX2_read_78 (fun H hH => ⟨rfl, (hσ4 0 1), hσ4, hH⟩)
    · refine s_sub (L' := []) [] rfl ?_
      refine s_iconst hC dX2_read_70 ?_
      refine s_goto (tgt := 78) hC dX2_read_71 (by decide) ?_
      exact s_iret hC hr dX2_read_78 (fun H hH => ⟨rfl, (inR_c _ rfl), hσ4, hH⟩)
  · refine s_lp_IB (J := J) (F := f_X2_read_L11 j3) 11 (fun x5 => [(0, .ref (b + 0)), (1, vI x5)]) (fun _ _ => rfl) (fun n ih11 x5 σ6 hx5 hσ6 => ?_) fu 0 σ2 (inR_c _ rfl) hσ2
    rw [f_X2_read_L11]
    refine s_iload_n hC dX2_read_11 rfl 1 rfl ?_
    refine s_aload_n hC dX2_read_12 rfl 0 rfl ?_
    refine s_get (b := b) hC hK (hJ.1 σ6) (by decide) o_Pad rfl q_w_X2 1 (by decide) q_f_X2_15 rfl dX2_read_13 ?_
    refine s_icmp_ge (tgt := 63) hC dX2_read_16 (by decide) hx5 (hσ6 0 1) ?_ ?_
    · refine s_sub (L' := [(0, .ref (b + 0))]) [0] rfl ?_
      exact hj3 σ6 hσ6
    · refine s_aload_n hC dX2_read_19 rfl 0 rfl ?_
      refine s_get (b := b) hC hK (hJ.1 σ6) (by decide) o_Pad rfl q_w_X2 6 (by decide) q_f_X2_31 rfl dX2_read_20 ?_
      refine s_jp_IB (J := J) 50 (fun x8 => [(0, .ref (b + 0)), (1, vI x5)]) (fun x8 => [vI x8]) (fun x8 σ9 hx8 hσ9 => ?_) (fun j7 hj7 => ?_)
      · refine s_istore_n (L' := [(2, vI x8), (0, .ref (b + 0)), (1, vI x5)]) hC dX2_read_50 rfl (by decide) rfl ?_
        refine s_iload_n hC dX2_read_51 rfl 0 rfl ?_
        refine s_if_ne (tgt := 57) hC dX2_read_52 (by decide) hx8 ?_ ?_
        · refine s_sub (L' := [(0, .ref (b + 0)), (1, vI x5)]) [1, 2] rfl ?_
          refine s_iincK hC dX2_read_57 1 rfl (by decide) (fun v10 => [(1, vI v10), (0, .ref (b + 0))]) (fun _ => rfl) (fun v10 hv10 => ?_)
          refine s_goto (tgt := 11) hC dX2_read_60 (by decide) ?_
          refine s_sub (L' := [(0, .ref (b + 0)), (1, vI v10)]) [1, 0] rfl ?_
          exact ih11 v10 σ9 hv10 hσ9
        · refine s_sub (L' := [(1, vI x5)]) [2] rfl ?_
          refine s_iload_n hC dX2_read_55 rfl 0 rfl ?_
          exact s_iret hC hr dX2_read_56 (fun H hH => ⟨rfl, hx5, hσ9, hH⟩)
      · refine s_if_eq (tgt := 39) hC dX2_read_23 (by decide) (hσ6 0 6) ?_ ?_
        · refine s_aload_n hC dX2_read_39 rfl 0 rfl ?_
          refine s_iload_n hC dX2_read_40 rfl 1 rfl ?_
          refine s_aload_n hC dX2_read_41 rfl 0 rfl ?_
          refine s_get (b := b) hC hK (hJ.1 σ6) (by decide) o_Pad rfl q_w_X2 0 (by decide) q_f_X2_9 rfl dX2_read_42 ?_
          refine s_iload_n hC dX2_read_45 rfl 1 rfl ?_
          refine s_iaload hC hK (hJ.1 σ6) hσ6 (by decide) a_Pad_1 dX2_read_46 (fun v11 hv11 => ?_)
          refine s_callV_W (As := [vI x5, vI v11]) (rest := []) (a := b + 0) hC hKA 2 (m_X2_readInKey hJ hσ6 hx5 hv11) (fun _ h => h) rfl (cb_of hC 2 q_c_yX2_readInKey q_i_X2 q_m_X2_48 rfl rfl dd_yX2_readInKey ⟨Nat.le_of_ble_eq_true rfl, Nat.le_of_ble_eq_true rfl⟩) q_i_yX2_readInKey q_x_yX2_readInKey (s_recv hK (hJ.1 σ6) (by decide) o_Pad rfl) rfl (Nat.le_of_ble_eq_true rfl) dX2_read_47 ⟨Nat.zero_le _, Nat.zero_le _⟩ (fun r12 σ13 hr12 hσ13 => ?_)
          exact hj7 r12 σ13 hr12 hσ13
        · refine s_aload_n hC dX2_read_26 rfl 0 rfl ?_
          refine s_aload_n hC dX2_read_27 rfl 0 rfl ?_
          refine s_get (b := b) hC hK (hJ.1 σ6) (by decide) o_Pad rfl q_w_X2 0 (by decide) q_f_X2_9 rfl dX2_read_28 ?_
          refine s_iload_n hC dX2_read_31 rfl 1 rfl ?_
          refine s_iaload hC hK (hJ.1 σ6) hσ6 (by decide) a_Pad_1 dX2_read_32 (fun v14 hv14 => ?_)
          refine s_callV_W (As := [vI v14]) (rest := []) (a := b + 0) hC hKA 1 (m_X2_readInText hJ hσ6 hv14) (fun _ h => h) rfl (cb_of hC 1 q_c_yX2_readInText q_i_X2 q_m_X2_44 rfl rfl dd_yX2_readInText ⟨Nat.le_of_ble_eq_true rfl, Nat.le_of_ble_eq_true rfl⟩) q_i_yX2_readInText q_x_yX2_readInText (s_recv hK (hJ.1 σ6) (by decide) o_Pad rfl) rfl (Nat.le_of_ble_eq_true rfl) dX2_read_33 ⟨Nat.zero_le _, Nat.zero_le _⟩ (fun r15 σ16 hr15 hσ16 => ?_)
          refine s_goto (tgt := 50) hC dX2_read_36 (by decide) ?_
          exact hj7 r15 σ16 hr15 hσ16
