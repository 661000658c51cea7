set_option maxHeartbeats 4000000 in
set_option maxRecDepth 100000 in
theorem m_X3_copyFrom {l : Launch} {G : Gt} {b : Nat} {σ : Blk} {J : Blk → Heap → Prop} (hJ : Wd G (layBook G b) 98 b J) (hσ : Rg σ) {b2 : Nat} {τ : Blk} (hO : ∀ σ H, J σ H → Bk G (layBook G b2) 98 b2 τ H) (hτ : Rg τ) : MetS l yX3_copyFrom cX3_copyFrom 2 none { frames := 1, cells := 0, slots := 0, locals := 44 } G [.ref (b + 1), .ref (b2 + 1)] (J σ) (poU J) (Ab b 98) 0 0 (g_X3_copyFrom σ τ) := by
  refine met_of (by decide) (Nat.le_of_ble_eq_true rfl) ?_
  intro p e s m below meth c hC hKA hr _
  have hK := hKA.1
  unfold g_X3_copyFrom
  refine s_sub (L' := [(0, .ref (b + 1)), (1, .ref (b2 + 1))]) [0, 1] rfl ?_
  refine s_aload_n hC dX3_copyFrom_0 rfl 1 rfl ?_
  refine s_get (b := b2) hC hK (hO σ) (by decide) o_Pages rfl q_w_X3 0 (by decide) q_f_X3_9 rfl dX3_copyFrom_1 ?_
  refine s_iconst hC dX3_copyFrom_4 ?_
  refine s_aload_n hC dX3_copyFrom_5 rfl 0 rfl ?_
  refine s_get (b := b) hC hK (hJ.1 σ) (by decide) o_Pages rfl q_w_X3 0 (by decide) q_f_X3_9 rfl dX3_copyFrom_6 ?_
  refine s_iconst hC dX3_copyFrom_9 ?_
  refine s_sipush hC dX3_copyFrom_10 (by decide) ?_
  refine s_acopy hC hK hJ (fun _ h => h) hσ hτ (hO σ) (by decide) a_Book_2 (by decide) a_Book_2 rfl q_m_X3_30 (Nat.le_of_ble_eq_true rfl) (Nat.le_of_ble_eq_true rfl) dX3_copyFrom_13 (fun σ1 hσ1 => ?_)
  refine s_aload_n hC dX3_copyFrom_16 rfl 1 rfl ?_
  refine s_get (b := b2) hC hK (hO σ1) (by decide) o_Pages rfl q_w_X3 1 (by decide) q_f_X3_15 rfl dX3_copyFrom_17 ?_
  refine s_iconst hC dX3_copyFrom_20 ?_
  refine s_aload_n hC dX3_copyFrom_21 rfl 0 rfl ?_
  refine s_get (b := b) hC hK (hJ.1 σ1) (by decide) o_Pages rfl q_w_X3 1 (by decide) q_f_X3_15 rfl dX3_copyFrom_22 ?_
  refine s_iconst hC dX3_copyFrom_25 ?_
  refine s_sipush hC dX3_copyFrom_26 (by decide) ?_
  refine s_acopy hC hK hJ (fun _ h => h) hσ1 hτ (hO σ1) (by decide) a_Book_3 (by decide) a_Book_3 rfl q_m_X3_30 (Nat.le_of_ble_eq_true rfl) (Nat.le_of_ble_eq_true rfl) dX3_copyFrom_29 (fun σ2 hσ2 => ?_)
  refine s_aload_n hC dX3_copyFrom_32 rfl 1 rfl ?_
  refine s_get (b := b2) hC hK (hO σ2) (by decide) o_Pages rfl q_w_X3 2 (by decide) q_f_X3_18 rfl dX3_copyFrom_33 ?_
  refine s_iconst hC dX3_copyFrom_36 ?_
  refine s_aload_n hC dX3_copyFrom_37 rfl 0 rfl ?_
  refine s_get (b := b) hC hK (hJ.1 σ2) (by decide) o_Pages rfl q_w_X3 2 (by decide) q_f_X3_18 rfl dX3_copyFrom_38 ?_
  refine s_iconst hC dX3_copyFrom_41 ?_
  refine s_sipush hC dX3_copyFrom_42 (by decide) ?_
  refine s_acopy hC hK hJ (fun _ h => h) hσ2 hτ (hO σ2) (by decide) a_Book_4 (by decide) a_Book_4 rfl q_m_X3_30 (Nat.le_of_ble_eq_true rfl) (Nat.le_of_ble_eq_true rfl) dX3_copyFrom_45 (fun σ3 hσ3 => ?_)
  refine s_aload_n hC dX3_copyFrom_48 rfl 1 rfl ?_
  refine s_get (b := b2) hC hK (hO σ3) (by decide) o_Pages rfl q_w_X3 3 (by decide) q_f_X3_21 rfl dX3_copyFrom_49 ?_
  refine s_iconst hC dX3_copyFrom_52 ?_
  refine s_aload_n hC dX3_copyFrom_53 rfl 0 rfl ?_
  refine s_get (b := b) hC hK (hJ.1 σ3) (by decide) o_Pages rfl q_w_X3 3 (by decide) q_f_X3_21 rfl dX3_copyFrom_54 ?_
  refine s_iconst hC dX3_copyFrom_57 ?_
  refine s_bipush hC dX3_copyFrom_58 (by decide) ?_
  refine s_acopy hC hK hJ (fun _ h => h) hσ3 hτ (hO σ3) (by decide) a_Book_5 (by decide) a_Book_5 rfl q_m_X3_30 (Nat.le_of_ble_eq_true rfl) (Nat.le_of_ble_eq_true rfl) dX3_copyFrom_60 (fun σ4 hσ4 => ?_)
  exact s_vret hC hr dX3_copyFrom_63 (fun H hH => ⟨rfl, hσ4, hH⟩)
set_option maxHeartbeats 4000000 in
set_option maxRecDepth 100000 in
theorem m_X3_vacate {l : Launch} {G : Gt} {b : Nat} {σ : Blk} {J : Blk → Heap → Prop} (hJ : Wd G (layBook G b) 98 b J) (hσ : Rg σ) {a1 : Int} (h1 : inR a1) : MetS l yX3_vacate cX3_vacate 2 none { frames := 0, cells := 0, slots := 0, locals := 0 } G [.ref (b + 1), vI a1] (J σ) (poU J) (Ab b 98) 0 0 (g_X3_vacate σ a1) := by
  refine met_of (by decide) (Nat.le_of_ble_eq_true rfl) ?_
  intro p e s m below meth c hC hKA hr _
  have hK := hKA.1
  unfold g_X3_vacate
  refine s_sub (L' := [(0, .ref (b + 1)), (1, vI a1)]) [0, 1] rfl ?_
  refine s_iload_n hC dX3_vacate_0 rfl 1 rfl ?_
  refine s_if_lt (tgt := 43) hC dX3_vacate_1 (by decide) h1 ?_ ?_
  · refine s_sub (L' := []) [] rfl ?_
    exact s_vret hC hr dX3_vacate_43 (fun H hH => ⟨rfl, hσ, hH⟩)
  · refine s_iload_n hC dX3_vacate_4 rfl 1 rfl ?_
    refine s_sipush hC dX3_vacate_5 (by decide) ?_
    refine s_icmp_ge (tgt := 43) hC dX3_vacate_8 (by decide) h1 (inR_c _ rfl) ?_ ?_
    · refine s_sub (L' := []) [] rfl ?_
      exact s_vret hC hr dX3_vacate_43 (fun H hH => ⟨rfl, hσ, hH⟩)
    · refine s_aload_n hC dX3_vacate_11 rfl 0 rfl ?_
      refine s_get (b := b) hC hK (hJ.1 σ) (by decide) o_Pages rfl q_w_X3 3 (by decide) q_f_X3_21 rfl dX3_vacate_12 ?_
      refine s_iload_n hC dX3_vacate_15 rfl 1 rfl ?_
      refine s_bipush hC dX3_vacate_16 (by decide) ?_
      refine s_idiv hC dX3_vacate_18 h1 (inR_c _ rfl) (by decide) (fun v1 hv1 => ?_)
      refine s_dup2 hC dX3_vacate_19 rfl rfl ?_
      refine s_iaload hC hK (hJ.1 σ) hσ (by decide) a_Book_5 dX3_vacate_20 (fun v2 hv2 => ?_)
      refine s_aload_n hC dX3_vacate_21 rfl 0 rfl ?_
      refine s_get (b := b) hC hK (hJ.1 σ) (by decide) o_Pages rfl q_w_X3 2 (by decide) q_f_X3_18 rfl dX3_vacate_22 ?_
      refine s_iload_n hC dX3_vacate_25 rfl 1 rfl ?_
      refine s_iaload hC hK (hJ.1 σ) hσ (by decide) a_Book_4 dX3_vacate_26 (fun v3 hv3 => ?_)
      refine s_iadd hC dX3_vacate_27 ?_
      refine s_ck0 (fun v4 hv4 => ?_)
      refine s_iastore hC hK hJ (fun _ h => h) hσ hv4 (by decide) a_Book_5 dX3_vacate_28 (fun σ5 hσ5 => ?_)
      refine s_aload_n hC dX3_vacate_29 rfl 0 rfl ?_
      refine s_get (b := b) hC hK (hJ.1 σ5) (by decide) o_Pages rfl q_w_X3 0 (by decide) q_f_X3_9 rfl dX3_vacate_30 ?_
      refine s_iload_n hC dX3_vacate_33 rfl 1 rfl ?_
      refine s_iconst hC dX3_vacate_34 ?_
      refine s_iastore hC hK hJ (fun _ h => h) hσ5 (inR_c _ rfl) (by decide) a_Book_2 dX3_vacate_35 (fun σ6 hσ6 => ?_)
      refine s_aload_n hC dX3_vacate_36 rfl 0 rfl ?_
      refine s_get (b := b) hC hK (hJ.1 σ6) (by decide) o_Pages rfl q_w_X3 2 (by decide) q_f_X3_18 rfl dX3_vacate_37 ?_
      refine s_iload_n hC dX3_vacate_40 rfl 1 rfl ?_
      refine s_iconst hC dX3_vacate_41 ?_
      refine s_iastore hC hK hJ (fun _ h => h) hσ6 (inR_c _ rfl) (by decide) a_Book_4 dX3_vacate_42 (fun σ7 hσ7 => ?_)
      refine s_sub (L' := []) [] rfl ?_
      exact s_vret hC hr dX3_vacate_43 (fun H hH => ⟨rfl, hσ7, hH⟩)
set_option maxHeartbeats 4000000 in
set_option maxRecDepth 100000 in
theorem m_X3_hasRoom {l : Launch} {G : Gt} {b : Nat} {σ : Blk} {I : Heap → Prop} (hI : ∀ H, I H → Bk G (layBook G b) 98 b σ H) (hσ : Rg σ) {a1 : Int} (h1 : inR a1) {a2 : Int} (h2 : inR a2) : MetS l yX3_hasRoom cX3_hasRoom 3 (some .boolean) { frames := 0, cells := 0, slots := 0, locals := 0 } G [.ref (b + 1), vI a1, vI a2] I (poP I) (fun _ => False) 0 0 (g_X3_hasRoom σ a1 a2) := by
  refine met_of (by decide) (Nat.le_of_ble_eq_true rfl) ?_
  intro p e s m below meth c hC hKA hr _
  have hK := hKA.1
  unfold g_X3_hasRoom
  refine s_sub (L' := [(0, .ref (b + 1)), (1, vI a1), (2, vI a2)]) [0, 1, 2] rfl ?_
  refine s_iload_n hC dX3_hasRoom_0 rfl 1 rfl ?_
  refine s_if_lt (tgt := 24) hC dX3_hasRoom_1 (by decide) h1 ?_ ?_
  · refine s_sub (L' := []) [] rfl ?_
    refine s_iconst hC dX3_hasRoom_24 ?_
    exact s_zret hC hr (Or.inl rfl) dX3_hasRoom_25 (fun H hH => ⟨rfl, (inR_c _ rfl), hH⟩)
  · refine s_iload_n hC dX3_hasRoom_4 rfl 1 rfl ?_
    refine s_bipush hC dX3_hasRoom_5 (by decide) ?_
    refine s_icmp_ge (tgt := 24) hC dX3_hasRoom_7 (by decide) h1 (inR_c _ rfl) ?_ ?_
    · refine s_sub (L' := []) [] rfl ?_
      refine s_iconst hC dX3_hasRoom_24 ?_
      exact s_zret hC hr (Or.inl rfl) dX3_hasRoom_25 (fun H hH => ⟨rfl, (inR_c _ rfl), hH⟩)
    · refine s_aload_n hC dX3_hasRoom_10 rfl 0 rfl ?_
      refine s_get (b := b) hC hK hI (by decide) o_Pages rfl q_w_X3 3 (by decide) q_f_X3_21 rfl dX3_hasRoom_11 ?_
      refine s_iload_n hC dX3_hasRoom_14 rfl 1 rfl ?_
      refine s_iaload hC hK hI hσ (by decide) a_Book_5 dX3_hasRoom_15 (fun v1 hv1 => ?_)
      refine s_iload_n hC dX3_hasRoom_16 rfl 2 rfl ?_
      refine s_icmp_lt (tgt := 24) hC dX3_hasRoom_17 (by decide) hv1 h2 ?_ ?_
      · refine s_sub (L' := []) [] rfl ?_
        refine s_iconst hC dX3_hasRoom_24 ?_
        exact s_zret hC hr (Or.inl rfl) dX3_hasRoom_25 (fun H hH => ⟨rfl, (inR_c _ rfl), hH⟩)
      · refine s_sub (L' := []) [] rfl ?_
        refine s_iconst hC dX3_hasRoom_20 ?_
        refine s_goto (tgt := 25) hC dX3_hasRoom_21 (by decide) ?_
        exact s_zret hC hr (Or.inr rfl) dX3_hasRoom_25 (fun H hH => ⟨rfl, (inR_c _ rfl), hH⟩)
set_option maxHeartbeats 4000000 in
set_option maxRecDepth 100000 in
theorem m_X3_occupy {l : Launch} {G : Gt} {b : Nat} {σ : Blk} {J : Blk → Heap → Prop} (hJ : Wd G (layBook G b) 98 b J) (hσ : Rg σ) {a1 : Int} (h1 : inR a1) {a2 : Int} (h2 : inR a2) {a3 : Int} (h3 : inR a3) {a4 : Int} (h4 : inR a4) : MetS l yX3_occupy cX3_occupy 5 none { frames := 0, cells := 0, slots := 0, locals := 0 } G [.ref (b + 1), vI a1, vI a2, vI a3, vI a4] (J σ) (poU J) (Ab b 98) 0 0 (g_X3_occupy σ a1 a2 a3 a4) := by
  refine met_of (by decide) (Nat.le_of_ble_eq_true rfl) ?_
  intro p e s m below meth c hC hKA hr _
  have hK := hKA.1
  unfold g_X3_occupy
  refine s_sub (L' := [(0, .ref (b + 1)), (1, vI a1), (2, vI a2), (3, vI a3), (4, vI a4)]) [0, 1, 2, 3, 4] rfl ?_
  refine s_iload_n hC dX3_occupy_0 rfl 1 rfl ?_
  refine s_if_lt (tgt := 47) hC dX3_occupy_1 (by decide) h1 ?_ ?_
  · refine s_sub (L' := []) [] rfl ?_
    exact s_vret hC hr dX3_occupy_47 (fun H hH => ⟨rfl, hσ, hH⟩)
  · refine s_iload_n hC dX3_occupy_4 rfl 1 rfl ?_
    refine s_sipush hC dX3_occupy_5 (by decide) ?_
    refine s_icmp_ge (tgt := 47) hC dX3_occupy_8 (by decide) h1 (inR_c _ rfl) ?_ ?_
    · refine s_sub (L' := []) [] rfl ?_
      exact s_vret hC hr dX3_occupy_47 (fun H hH => ⟨rfl, hσ, hH⟩)
    · refine s_aload_n hC dX3_occupy_11 rfl 0 rfl ?_
      refine s_get (b := b) hC hK (hJ.1 σ) (by decide) o_Pages rfl q_w_X3 0 (by decide) q_f_X3_9 rfl dX3_occupy_12 ?_
      refine s_iload_n hC dX3_occupy_15 rfl 1 rfl ?_
      refine s_iload_n hC dX3_occupy_16 rfl 2 rfl ?_
      refine s_iastore hC hK hJ (fun _ h => h) hσ h2 (by decide) a_Book_2 dX3_occupy_17 (fun σ1 hσ1 => ?_)
      refine s_aload_n hC dX3_occupy_18 rfl 0 rfl ?_
      refine s_get (b := b) hC hK (hJ.1 σ1) (by decide) o_Pages rfl q_w_X3 1 (by decide) q_f_X3_15 rfl dX3_occupy_19 ?_
      refine s_iload_n hC dX3_occupy_22 rfl 1 rfl ?_
      refine s_iload_n hC dX3_occupy_23 rfl 3 rfl ?_
      refine s_iastore hC hK hJ (fun _ h => h) hσ1 h3 (by decide) a_Book_3 dX3_occupy_24 (fun σ2 hσ2 => ?_)
      refine s_aload_n hC dX3_occupy_25 rfl 0 rfl ?_
      refine s_get (b := b) hC hK (hJ.1 σ2) (by decide) o_Pages rfl q_w_X3 2 (by decide) q_f_X3_18 rfl dX3_occupy_26 ?_
      refine s_iload_n hC dX3_occupy_29 rfl 1 rfl ?_
      refine s_iload hC dX3_occupy_30 4 rfl ?_
      refine s_iastore hC hK hJ (fun _ h => h) hσ2 h4 (by decide) a_Book_4 dX3_occupy_32 (fun σ3 hσ3 => ?_)
      refine s_aload_n hC dX3_occupy_33 rfl 0 rfl ?_
      refine s_get (b := b) hC hK (hJ.1 σ3) (by decide) o_Pages rfl q_w_X3 3 (by decide) q_f_X3_21 rfl dX3_occupy_34 ?_
      refine s_iload_n hC dX3_occupy_37 rfl 1 rfl ?_
      refine s_bipush hC dX3_occupy_38 (by decide) ?_
      refine s_idiv hC dX3_occupy_40 h1 (inR_c _ rfl) (by decide) (fun v4 hv4 => ?_)
      refine s_dup2 hC dX3_occupy_41 rfl rfl ?_
      refine s_iaload hC hK (hJ.1 σ3) hσ3 (by decide) a_Book_5 dX3_occupy_42 (fun v5 hv5 => ?_)
      refine s_iload hC dX3_occupy_43 4 rfl ?_
      refine s_isub hC dX3_occupy_45 ?_
      refine s_ck0 (fun v6 hv6 => ?_)
      refine s_iastore hC hK hJ (fun _ h => h) hσ3 hv6 (by decide) a_Book_5 dX3_occupy_46 (fun σ7 hσ7 => ?_)
      refine s_sub (L' := []) [] rfl ?_
      exact s_vret hC hr dX3_occupy_47 (fun H hH => ⟨rfl, hσ7, hH⟩)
set_option maxHeartbeats 4000000 in
set_option maxRecDepth 100000 in
theorem m_X3_lowestGap {l : Launch} {G : Gt} {b : Nat} {σ : Blk} {I : Heap → Prop} (hI : ∀ H, I H → Bk G (layBook G b) 98 b σ H) (hσ : Rg σ) {a1 : Int} (h1 : inR a1) : MetS l yX3_lowestGap cX3_lowestGap 4 (some .int) { frames := 1, cells := 0, slots := 0, locals := 21 } G [.ref (b + 1), vI a1] I (poP I) (fun _ => False) 0 0 (g_X3_lowestGap σ a1) := by
  refine met_of (by decide) (Nat.le_of_ble_eq_true rfl) ?_
  intro p e s m below meth c hC hKA hr _
  have hK := hKA.1
  unfold g_X3_lowestGap
  refine s_sub (L' := [(0, .ref (b + 1)), (1, vI a1)]) [0, 1] rfl ?_
  refine s_iconst hC dX3_lowestGap_0 ?_
  refine s_istore_n (L' := [(2, vI 0), (0, .ref (b + 1)), (1, vI a1)]) hC dX3_lowestGap_1 rfl (by decide) rfl ?_
  refine s_sub (L' := [(0, .ref (b + 1)), (1, vI a1), (2, vI 0)]) [1, 2, 0] rfl ?_
  refine s_lp_I (F := g_X3_lowestGap_L2 σ a1) 2 (fun x1 => [(0, .ref (b + 1)), (1, vI a1), (2, vI x1)]) (fun _ => rfl) (fun n ih2 x1 hx1 => ?_) fu 0 (inR_c _ rfl)
  rw [g_X3_lowestGap_L2]
  refine s_iload_n hC dX3_lowestGap_2 rfl 2 rfl ?_
  refine s_bipush hC dX3_lowestGap_3 (by decide) ?_
  refine s_icmp_ge (tgt := 34) hC dX3_lowestGap_5 (by decide) hx1 (inR_c _ rfl) ?_ ?_
  · refine s_sub (L' := []) [] rfl ?_
    refine s_iconst hC dX3_lowestGap_34 ?_
    exact s_iret hC hr dX3_lowestGap_35 (fun H hH => ⟨rfl, (inR_c _ rfl), hH⟩)
  · refine s_iload_n hC dX3_lowestGap_8 rfl 1 rfl ?_
    refine s_bipush hC dX3_lowestGap_9 (by decide) ?_
    refine s_imul hC dX3_lowestGap_11 ?_
    refine s_iload_n hC dX3_lowestGap_12 rfl 2 rfl ?_
    refine s_iadd hC dX3_lowestGap_13 ?_
    refine s_ck0 (fun v2 hv2 => ?_)
    refine s_istore_n (L' := [(3, vI v2), (0, .ref (b + 1)), (1, vI a1), (2, vI x1)]) hC dX3_lowestGap_14 rfl (by decide) rfl ?_
    refine s_aload_n hC dX3_lowestGap_15 rfl 1 rfl ?_
    refine s_get (b := b) hC hK hI (by decide) o_Pages rfl q_w_X3 0 (by decide) q_f_X3_9 rfl dX3_lowestGap_16 ?_
    refine s_iload_n hC dX3_lowestGap_19 rfl 0 rfl ?_
    refine s_callSN_P (As := [.ref (b + 2), vI v2]) (rest := []) hC hKA 2 (m_X4_at hI hσ (by decide) a_Book_2 hv2) rfl (cn_of hC hKA 2 q_c_yX4_at q_i_X4 nwm_X3_48 rfl rfl dd_yX4_at ⟨Nat.le_of_ble_eq_true rfl, Nat.le_of_ble_eq_true rfl⟩) q_s_yX4_at rfl (Nat.le_of_ble_eq_true rfl) dX3_lowestGap_20 ⟨Nat.zero_le _, Nat.zero_le _⟩ (fun r3 hr3 => ?_)
    refine s_if_ne (tgt := 28) hC dX3_lowestGap_23 (by decide) hr3 ?_ ?_
    · refine s_sub (L' := [(0, .ref (b + 1)), (1, vI a1), (2, vI x1)]) [1, 2, 3] rfl ?_
      refine s_iincK hC dX3_lowestGap_28 2 rfl (by decide) (fun v4 => [(2, vI v4), (0, .ref (b + 1)), (1, vI a1)]) (fun _ => rfl) (fun v4 hv4 => ?_)
      refine s_goto (tgt := 2) hC dX3_lowestGap_31 (by decide) ?_
      refine s_sub (L' := [(0, .ref (b + 1)), (1, vI a1), (2, vI v4)]) [1, 2, 0] rfl ?_
      exact ih2 v4 hv4
    · refine s_sub (L' := [(3, vI v2)]) [0] rfl ?_
      refine s_iload_n hC dX3_lowestGap_26 rfl 0 rfl ?_
      exact s_iret hC hr dX3_lowestGap_27 (fun H hH => ⟨rfl, hv2, hH⟩)
set_option maxHeartbeats 4000000 in
set_option maxRecDepth 100000 in
theorem m_X3_place {l : Launch} {G : Gt} {b : Nat} {σ : Blk} {J : Blk → Heap → Prop} (hJ : Wd G (layBook G b) 98 b J) (hσ : Rg σ) {a1 : Int} (h1 : inR a1) {a2 : Int} (h2 : inR a2) {a3 : Int} (h3 : inR a3) : MetS l yX3_place cX3_place 6 (some .int) { frames := 2, cells := 0, slots := 0, locals := 44 } G [.ref (b + 1), vI a1, vI a2, vI a3] (J σ) (poW J) (Ab b 98) 0 0 (g_X3_place σ a1 a2 a3) := by
  refine met_of (by decide) (Nat.le_of_ble_eq_true rfl) ?_
  intro p e s m below meth c hC hKA hr _
  have hK := hKA.1
  unfold g_X3_place
  refine s_sub (L' := [(0, .ref (b + 1)), (1, vI a1), (2, vI a2), (3, vI a3)]) [0, 1, 2, 3] rfl ?_
  refine s_iconst hC dX3_place_0 ?_
  refine s_istore (L' := [(4, vI 0), (0, .ref (b + 1)), (1, vI a1), (2, vI a2), (3, vI a3)]) hC dX3_place_1 (by decide) rfl ?_
  refine s_sub (L' := [(0, .ref (b + 1)), (1, vI a1), (2, vI a2), (3, vI a3), (4, vI 0)]) [1, 2, 3, 4, 0] rfl ?_
  refine s_lp_I (F := g_X3_place_L3 σ a1 a2 a3) 3 (fun x1 => [(0, .ref (b + 1)), (1, vI a1), (2, vI a2), (3, vI a3), (4, vI x1)]) (fun _ => rfl) (fun n ih3 x1 hx1 => ?_) fu 0 (inR_c _ rfl)
  rw [g_X3_place_L3]
  refine s_iload hC dX3_place_3 4 rfl ?_
  refine s_bipush hC dX3_place_5 (by decide) ?_
  refine s_icmp_ge (tgt := 46) hC dX3_place_7 (by decide) hx1 (inR_c _ rfl) ?_ ?_
  · refine s_sub (L' := []) [] rfl ?_
    refine s_iconst hC dX3_place_46 ?_
    exact s_iret hC hr dX3_place_47 (fun H hH => ⟨rfl, (inR_c _ rfl), hσ, hH⟩)
  · refine s_aload_n hC dX3_place_10 rfl 0 rfl ?_
    refine s_iload hC dX3_place_11 4 rfl ?_
    refine s_iload_n hC dX3_place_13 rfl 3 rfl ?_
    refine s_callV_P (As := [vI x1, vI a3]) (rest := []) (a := b + 1) hC hKA 2 (m_X3_hasRoom (hJ.1 σ) hσ hx1 h3) rfl (cb_of hC 2 q_c_yX3_hasRoom q_i_X3 q_m_X3_36 rfl rfl dd_yX3_hasRoom ⟨Nat.le_of_ble_eq_true rfl, Nat.le_of_ble_eq_true rfl⟩) q_i_yX3_hasRoom q_x_yX3_hasRoom (s_recv hK (hJ.1 σ) (by decide) o_Pages rfl) rfl (Nat.le_of_ble_eq_true rfl) dX3_place_14 ⟨Nat.zero_le _, Nat.zero_le _⟩ (fun r2 hr2 => ?_)
    refine s_if_eq (tgt := 40) hC dX3_place_17 (by decide) hr2 ?_ ?_
    · refine s_iincK hC dX3_place_40 4 rfl (by decide) (fun v3 => [(4, vI v3), (0, .ref (b + 1)), (1, vI a1), (2, vI a2), (3, vI a3)]) (fun _ => rfl) (fun v3 hv3 => ?_)
      refine s_goto (tgt := 3) hC dX3_place_43 (by decide) ?_
      refine s_sub (L' := [(0, .ref (b + 1)), (1, vI a1), (2, vI a2), (3, vI a3), (4, vI v3)]) [1, 2, 3, 4, 0] rfl ?_
      exact ih3 v3 hv3
    · refine s_aload_n hC dX3_place_20 rfl 0 rfl ?_
      refine s_iload hC dX3_place_21 4 rfl ?_
      refine s_callV_P (As := [vI x1]) (rest := []) (a := b + 1) hC hKA 1 (m_X3_lowestGap (hJ.1 σ) hσ hx1) rfl (cb_of hC 1 q_c_yX3_lowestGap q_i_X3 q_m_X3_40 rfl rfl dd_yX3_lowestGap ⟨Nat.le_of_ble_eq_true rfl, Nat.le_of_ble_eq_true rfl⟩) q_i_yX3_lowestGap q_x_yX3_lowestGap (s_recv hK (hJ.1 σ) (by decide) o_Pages rfl) rfl (Nat.le_of_ble_eq_true rfl) dX3_place_23 ⟨Nat.zero_le _, Nat.zero_le _⟩ (fun r4 hr4 => ?_)
      refine s_istore (L' := [(5, vI r4), (0, .ref (b + 1)), (1, vI a1), (2, vI a2), (3, vI a3), (4, vI x1)]) hC dX3_place_26 (by decide) rfl ?_
      refine s_aload_n hC dX3_place_28 rfl 1 rfl ?_
      refine s_iload hC dX3_place_29 0 rfl ?_
      refine s_iload_n hC dX3_place_31 rfl 2 rfl ?_
      refine s_iload_n hC dX3_place_32 rfl 3 rfl ?_
      refine s_iload_n hC dX3_place_33 rfl 4 rfl ?_
      refine s_callV_U (As := [vI r4, vI a1, vI a2, vI a3]) (rest := []) (a := b + 1) hC hKA 4 (m_X3_occupy hJ hσ hr4 h1 h2 h3) (fun _ h => h) rfl (cb_of hC 4 q_c_yX3_occupy q_i_X3 q_m_X3_44 rfl rfl dd_yX3_occupy ⟨Nat.le_of_ble_eq_true rfl, Nat.le_of_ble_eq_true rfl⟩) q_i_yX3_occupy q_x_yX3_occupy (s_recv hK (hJ.1 σ) (by decide) o_Pages rfl) rfl (Nat.le_of_ble_eq_true rfl) dX3_place_34 ⟨Nat.zero_le _, Nat.zero_le _⟩ (fun σ5 hσ5 => ?_)
      refine s_iload hC dX3_place_37 0 rfl ?_
      exact s_iret hC hr dX3_place_39 (fun H hH => ⟨rfl, hr4, hσ5, hH⟩)
set_option maxHeartbeats 4000000 in
set_option maxRecDepth 100000 in
theorem m_X3_clear {l : Launch} {G : Gt} {b : Nat} {σ : Blk} {J : Blk → Heap → Prop} (hJ : Wd G (layBook G b) 98 b J) (hσ : Rg σ)  : MetS l yX3_clear cX3_clear 1 none { frames := 1, cells := 0, slots := 0, locals := 23 } G [.ref (b + 1)] (J σ) (poU J) (Ab b 98) 0 0 (g_X3_clear σ) := by
  refine met_of (by decide) (Nat.le_of_ble_eq_true rfl) ?_
  intro p e s m below meth c hC hKA hr _
  have hK := hKA.1
  unfold g_X3_clear
  refine s_sub (L' := [(0, .ref (b + 1))]) [0] rfl ?_
  refine s_aload_n hC dX3_clear_0 rfl 0 rfl ?_
  refine s_get (b := b) hC hK (hJ.1 σ) (by decide) o_Pages rfl q_w_X3 0 (by decide) q_f_X3_9 rfl dX3_clear_1 ?_
  refine s_iconst hC dX3_clear_4 ?_
  refine s_callS_U (As := [.ref (b + 2), vI 0]) (rest := []) hC hKA 2 (m_J7_fill_53178 hJ hσ (by decide) a_Book_2 (inR_c _ rfl)) (fun _ h => h) rfl (cb_of hC 2 q_c_yJ7_fill_53178 q_i_J7 q_m_X3_24 rfl rfl dd_yJ7_fill_53178 ⟨Nat.le_of_ble_eq_true rfl, Nat.le_of_ble_eq_true rfl⟩) q_s_yJ7_fill_53178 rfl (Nat.le_of_ble_eq_true rfl) dX3_clear_5 ⟨Nat.zero_le _, Nat.zero_le _⟩ (fun σ1 hσ1 => ?_)
  refine s_aload_n hC dX3_clear_8 rfl 0 rfl ?_
  refine s_get (b := b) hC hK (hJ.1 σ1) (by decide) o_Pages rfl q_w_X3 2 (by decide) q_f_X3_18 rfl dX3_clear_9 ?_
  refine s_iconst hC dX3_clear_12 ?_
  refine s_callS_U (As := [.ref (b + 4), vI 0]) (rest := []) hC hKA 2 (m_J7_fill_53178 hJ hσ1 (by decide) a_Book_4 (inR_c _ rfl)) (fun _ h => h) rfl (cb_of hC 2 q_c_yJ7_fill_53178 q_i_J7 q_m_X3_24 rfl rfl dd_yJ7_fill_53178 ⟨Nat.le_of_ble_eq_true rfl, Nat.le_of_ble_eq_true rfl⟩) q_s_yJ7_fill_53178 rfl (Nat.le_of_ble_eq_true rfl) dX3_clear_13 ⟨Nat.zero_le _, Nat.zero_le _⟩ (fun σ2 hσ2 => ?_)
  refine s_aload_n hC dX3_clear_16 rfl 0 rfl ?_
  refine s_get (b := b) hC hK (hJ.1 σ2) (by decide) o_Pages rfl q_w_X3 3 (by decide) q_f_X3_21 rfl dX3_clear_17 ?_
  refine s_bipush hC dX3_clear_20 (by decide) ?_
  refine s_callS_U (As := [.ref (b + 5), vI 40]) (rest := []) hC hKA 2 (m_J7_fill_53178 hJ hσ2 (by decide) a_Book_5 (inR_c _ rfl)) (fun _ h => h) rfl (cb_of hC 2 q_c_yJ7_fill_53178 q_i_J7 q_m_X3_24 rfl rfl dd_yJ7_fill_53178 ⟨Nat.le_of_ble_eq_true rfl, Nat.le_of_ble_eq_true rfl⟩) q_s_yJ7_fill_53178 rfl (Nat.le_of_ble_eq_true rfl) dX3_clear_22 ⟨Nat.zero_le _, Nat.zero_le _⟩ (fun σ3 hσ3 => ?_)
  exact s_vret hC hr dX3_clear_25 (fun H hH => ⟨rfl, hσ3, hH⟩)
set_option maxHeartbeats 4000000 in
set_option maxRecDepth 100000 in
theorem m_X3_slotsOf {l : Launch} {G : Gt} {b : Nat} {σ : Blk} {I : Heap → Prop} (hI : ∀ H, I H → Bk G (layBook G b) 98 b σ H) (hσ : Rg σ) {a1 : Int} (h1 : inR a1) : MetS l yX3_slotsOf cX3_slotsOf 3 (some .int) { frames := 1, cells := 0, slots := 0, locals := 21 } G [.ref (b + 1), vI a1] I (poP I) (fun _ => False) 0 0 (g_X3_slotsOf σ a1) := by
  refine met_of (by decide) (Nat.le_of_ble_eq_true rfl) ?_
  intro p e s m below meth c hC hKA hr _
  have hK := hKA.1
  unfold g_X3_slotsOf
  refine s_sub (L' := [(0, .ref (b + 1)), (1, vI a1)]) [0, 1] rfl ?_
  refine s_bipush hC dX3_slotsOf_0 (by decide) ?_
  refine s_istore_n (L' := [(2, vI 39), (0, .ref (b + 1)), (1, vI a1)]) hC dX3_slotsOf_2 rfl (by decide) rfl ?_
  refine s_sub (L' := [(0, .ref (b + 1)), (1, vI a1), (2, vI 39)]) [1, 2, 0] rfl ?_
  refine s_lp_I (F := g_X3_slotsOf_L3 σ a1) 3 (fun x1 => [(0, .ref (b + 1)), (1, vI a1), (2, vI x1)]) (fun _ => rfl) (fun n ih3 x1 hx1 => ?_) fu 39 (inR_c _ rfl)
  rw [g_X3_slotsOf_L3]
  refine s_iload_n hC dX3_slotsOf_3 rfl 2 rfl ?_
  refine s_if_lt (tgt := 33) hC dX3_slotsOf_4 (by decide) hx1 ?_ ?_
  · refine s_sub (L' := []) [] rfl ?_
    refine s_iconst hC dX3_slotsOf_33 ?_
    exact s_iret hC hr dX3_slotsOf_34 (fun H hH => ⟨rfl, (inR_c _ rfl), hH⟩)
  · refine s_aload_n hC dX3_slotsOf_7 rfl 0 rfl ?_
    refine s_get (b := b) hC hK hI (by decide) o_Pages rfl q_w_X3 0 (by decide) q_f_X3_9 rfl dX3_slotsOf_8 ?_
    refine s_iload_n hC dX3_slotsOf_11 rfl 1 rfl ?_
    refine s_bipush hC dX3_slotsOf_12 (by decide) ?_
    refine s_imul hC dX3_slotsOf_14 ?_
    refine s_iload_n hC dX3_slotsOf_15 rfl 2 rfl ?_
    refine s_iadd hC dX3_slotsOf_16 ?_
    refine s_ck0 (fun v2 hv2 => ?_)
    refine s_callSN_P (As := [.ref (b + 2), vI v2]) (rest := []) hC hKA 2 (m_X4_at hI hσ (by decide) a_Book_2 hv2) rfl (cn_of hC hKA 2 q_c_yX4_at q_i_X4 nwm_X3_48 rfl rfl dd_yX4_at ⟨Nat.le_of_ble_eq_true rfl, Nat.le_of_ble_eq_true rfl⟩) q_s_yX4_at rfl (Nat.le_of_ble_eq_true rfl) dX3_slotsOf_17 ⟨Nat.zero_le _, Nat.zero_le _⟩ (fun r3 hr3 => ?_)
    refine s_if_eq (tgt := 27) hC dX3_slotsOf_20 (by decide) hr3 ?_ ?_
    · refine s_iincK hC dX3_slotsOf_27 2 rfl (by decide) (fun v4 => [(2, vI v4), (0, .ref (b + 1)), (1, vI a1)]) (fun _ => rfl) (fun v4 hv4 => ?_)
      refine s_goto (tgt := 3) hC dX3_slotsOf_30 (by decide) ?_
      refine s_sub (L' := [(0, .ref (b + 1)), (1, vI a1), (2, vI v4)]) [1, 2, 0] rfl ?_
      exact ih3 v4 hv4
    · refine s_sub (L' := [(2, vI x1)]) [2] rfl ?_
      refine s_iload_n hC dX3_slotsOf_23 rfl 0 rfl ?_
      refine s_iconst hC dX3_slotsOf_24 ?_
      refine s_iadd hC dX3_slotsOf_25 ?_
      refine s_ck0 (fun v5 hv5 => ?_)
      exact s_iret hC hr dX3_slotsOf_26 (fun H hH => ⟨rfl, hv5, hH⟩)
set_option maxHeartbeats 4000000 in
set_option maxRecDepth 100000 in
theorem m_X3_thingsOn {l : Launch} {G : Gt} {b : Nat} {σ : Blk} {I : Heap → Prop} (hI : ∀ H, I H → Bk G (layBook G b) 98 b σ H) (hσ : Rg σ) {a1 : Int} (h1 : inR a1) {a2 : Int} (h2 : inR a2) : MetS l yX3_thingsOn cX3_thingsOn 6 (some .int) { frames := 2, cells := 0, slots := 0, locals := 43 } G [.ref (b + 1), vI a1, vI a2] I (poP I) (fun _ => False) 0 0 (g_X3_thingsOn σ a1 a2) := by
  refine met_of (by decide) (Nat.le_of_ble_eq_true rfl) ?_
  intro p e s m below meth c hC hKA hr _
  have hK := hKA.1
  unfold g_X3_thingsOn
  refine s_sub (L' := [(0, .ref (b + 1)), (1, vI a1), (2, vI a2)]) [0, 1, 2] rfl ?_
  refine s_aload_n hC dX3_thingsOn_0 rfl 0 rfl ?_
  refine s_iload_n hC dX3_thingsOn_1 rfl 1 rfl ?_
  refine s_callV_P (As := [vI a1]) (rest := []) (a := b + 1) hC hKA 1 (m_X3_slotsOf hI hσ h1) rfl (cb_of hC 1 q_c_yX3_slotsOf q_i_X3 q_m_X3_52 rfl rfl dd_yX3_slotsOf ⟨Nat.le_of_ble_eq_true rfl, Nat.le_of_ble_eq_true rfl⟩) q_i_yX3_slotsOf q_x_yX3_slotsOf (s_recv hK hI (by decide) o_Pages rfl) rfl (Nat.le_of_ble_eq_true rfl) dX3_thingsOn_2 ⟨Nat.zero_le _, Nat.zero_le _⟩ (fun r1 hr1 => ?_)
  refine s_istore_n (L' := [(3, vI r1), (0, .ref (b + 1)), (1, vI a1), (2, vI a2)]) hC dX3_thingsOn_5 rfl (by decide) rfl ?_
  refine s_iconst hC dX3_thingsOn_6 ?_
  refine s_istore (L' := [(4, vI 0), (3, vI r1), (0, .ref (b + 1)), (1, vI a1), (2, vI a2)]) hC dX3_thingsOn_7 (by decide) rfl ?_
  refine s_iconst hC dX3_thingsOn_9 ?_
  refine s_istore (L' := [(5, vI 0), (4, vI 0), (3, vI r1), (0, .ref (b + 1)), (1, vI a1), (2, vI a2)]) hC dX3_thingsOn_10 (by decide) rfl ?_
  refine s_sub (L' := [(0, .ref (b + 1)), (1, vI a1), (2, vI a2), (3, vI r1), (4, vI 0), (5, vI 0)]) [3, 4, 5, 2, 1, 0] rfl ?_
  refine s_lp_II (F := g_X3_thingsOn_L12 σ a1 a2 r1) 12 (fun x2 x3 => [(0, .ref (b + 1)), (1, vI a1), (2, vI a2), (3, vI r1), (4, vI x2), (5, vI x3)]) (fun _ _ => rfl) (fun n ih12 x2 x3 hx2 hx3 => ?_) fu 0 0 (inR_c _ rfl) (inR_c _ rfl)
  rw [g_X3_thingsOn_L12]
  refine s_iload hC dX3_thingsOn_12 5 rfl ?_
  refine s_iload_n hC dX3_thingsOn_14 rfl 3 rfl ?_
  refine s_icmp_ge (tgt := 45) hC dX3_thingsOn_15 (by decide) hx3 hr1 ?_ ?_
  · refine s_sub (L' := [(4, vI x2)]) [4] rfl ?_
    refine s_iload hC dX3_thingsOn_45 0 rfl ?_
    exact s_iret hC hr dX3_thingsOn_47 (fun H hH => ⟨rfl, hx2, hH⟩)
  · refine s_aload_n hC dX3_thingsOn_18 rfl 0 rfl ?_
    refine s_get (b := b) hC hK hI (by decide) o_Pages rfl q_w_X3 0 (by decide) q_f_X3_9 rfl dX3_thingsOn_19 ?_
    refine s_iload_n hC dX3_thingsOn_22 rfl 1 rfl ?_
    refine s_bipush hC dX3_thingsOn_23 (by decide) ?_
    refine s_imul hC dX3_thingsOn_25 ?_
    refine s_iload hC dX3_thingsOn_26 5 rfl ?_
    refine s_iadd hC dX3_thingsOn_28 ?_
    refine s_ck0 (fun v4 hv4 => ?_)
    refine s_callSN_P (As := [.ref (b + 2), vI v4]) (rest := []) hC hKA 2 (m_X4_at hI hσ (by decide) a_Book_2 hv4) rfl (cn_of hC hKA 2 q_c_yX4_at q_i_X4 nwm_X3_48 rfl rfl dd_yX4_at ⟨Nat.le_of_ble_eq_true rfl, Nat.le_of_ble_eq_true rfl⟩) q_s_yX4_at rfl (Nat.le_of_ble_eq_true rfl) dX3_thingsOn_29 ⟨Nat.zero_le _, Nat.zero_le _⟩ (fun r5 hr5 => ?_)
    refine s_iload_n hC dX3_thingsOn_32 rfl 2 rfl ?_
    refine s_jp_I 39 (fun x7 => [(0, .ref (b + 1)), (1, vI a1), (2, vI a2), (3, vI r1), (4, vI x7), (5, vI x3)]) (fun x7 => []) (fun x7 hx7 => ?_) (fun j6 hj6 => ?_)
    · refine s_iincK hC dX3_thingsOn_39 5 rfl (by decide) (fun v8 => [(5, vI v8), (0, .ref (b + 1)), (1, vI a1), (2, vI a2), (3, vI r1), (4, vI x7)]) (fun _ => rfl) (fun v8 hv8 => ?_)
      refine s_goto (tgt := 12) hC dX3_thingsOn_42 (by decide) ?_
      refine s_sub (L' := [(0, .ref (b + 1)), (1, vI a1), (2, vI a2), (3, vI r1), (4, vI x7), (5, vI v8)]) [1, 2, 3, 4, 5, 0] rfl ?_
      exact ih12 x7 v8 hx7 hv8
    · refine s_icmp_ne (tgt := 39) hC dX3_thingsOn_33 (by decide) hr5 h2 ?_ ?_
      · exact hj6 x2 hx2
      · refine s_iincK hC dX3_thingsOn_36 4 rfl (by decide) (fun v9 => [(4, vI v9), (0, .ref (b + 1)), (1, vI a1), (2, vI a2), (3, vI r1), (5, vI x3)]) (fun _ => rfl) (fun v9 hv9 => ?_)
        refine s_sub (L' := [(0, .ref (b + 1)), (1, vI a1), (2, vI a2), (3, vI r1), (4, vI v9), (5, vI x3)]) [1, 2, 3, 4, 0, 5] rfl ?_
        exact hj6 v9 hv9
set_option maxHeartbeats 4000000 in
set_option maxRecDepth 100000 in
theorem m_X3_thingsInAll {l : Launch} {G : Gt} {b : Nat} {σ : Blk} {I : Heap → Prop} (hI : ∀ H, I H → Bk G (layBook G b) 98 b σ H) (hσ : Rg σ) {a1 : Int} (h1 : inR a1) : MetS l yX3_thingsInAll cX3_thingsInAll 4 (some .int) { frames := 3, cells := 0, slots := 0, locals := 68 } G [.ref (b + 1), vI a1] I (poP I) (fun _ => False) 0 0 (g_X3_thingsInAll σ a1) := by
  refine met_of (by decide) (Nat.le_of_ble_eq_true rfl) ?_
  intro p e s m below meth c hC hKA hr _
  have hK := hKA.1
  unfold g_X3_thingsInAll
  refine s_sub (L' := [(0, .ref (b + 1)), (1, vI a1)]) [0, 1] rfl ?_
  refine s_iconst hC dX3_thingsInAll_0 ?_
  refine s_istore_n (L' := [(2, vI 0), (0, .ref (b + 1)), (1, vI a1)]) hC dX3_thingsInAll_1 rfl (by decide) rfl ?_
  refine s_iconst hC dX3_thingsInAll_2 ?_
  refine s_istore_n (L' := [(3, vI 0), (2, vI 0), (0, .ref (b + 1)), (1, vI a1)]) hC dX3_thingsInAll_3 rfl (by decide) rfl ?_
  refine s_sub (L' := [(0, .ref (b + 1)), (1, vI a1), (2, vI 0), (3, vI 0)]) [2, 3, 1, 0] rfl ?_
  refine s_lp_II (F := g_X3_thingsInAll_L4 σ a1) 4 (fun x1 x2 => [(0, .ref (b + 1)), (1, vI a1), (2, vI x1), (3, vI x2)]) (fun _ _ => rfl) (fun n ih4 x1 x2 hx1 hx2 => ?_) fu 0 0 (inR_c _ rfl) (inR_c _ rfl)
  rw [g_X3_thingsInAll_L4]
  refine s_iload_n hC dX3_thingsInAll_4 rfl 3 rfl ?_
  refine s_bipush hC dX3_thingsInAll_5 (by decide) ?_
  refine s_icmp_ge (tgt := 25) hC dX3_thingsInAll_7 (by decide) hx2 (inR_c _ rfl) ?_ ?_
  · refine s_sub (L' := [(2, vI x1)]) [2] rfl ?_
    refine s_iload_n hC dX3_thingsInAll_25 rfl 0 rfl ?_
    exact s_iret hC hr dX3_thingsInAll_26 (fun H hH => ⟨rfl, hx1, hH⟩)
  · refine s_iload_n hC dX3_thingsInAll_10 rfl 2 rfl ?_
    refine s_aload_n hC dX3_thingsInAll_11 rfl 0 rfl ?_
    refine s_iload_n hC dX3_thingsInAll_12 rfl 3 rfl ?_
    refine s_iload_n hC dX3_thingsInAll_13 rfl 1 rfl ?_
    refine s_callV_P (As := [vI x2, vI a1]) (rest := [vI x1]) (a := b + 1) hC hKA 2 (m_X3_thingsOn hI hσ hx2 h1) rfl (cb_of hC 2 q_c_yX3_thingsOn q_i_X3 q_m_X3_55 rfl rfl dd_yX3_thingsOn ⟨Nat.le_of_ble_eq_true rfl, Nat.le_of_ble_eq_true rfl⟩) q_i_yX3_thingsOn q_x_yX3_thingsOn (s_recv hK hI (by decide) o_Pages rfl) rfl (Nat.le_of_ble_eq_true rfl) dX3_thingsInAll_14 ⟨Nat.zero_le _, Nat.zero_le _⟩ (fun r3 hr3 => ?_)
    refine s_iadd hC dX3_thingsInAll_17 ?_
    refine s_ck0 (fun v4 hv4 => ?_)
    refine s_istore_n (L' := [(2, vI v4), (0, .ref (b + 1)), (1, vI a1), (3, vI x2)]) hC dX3_thingsInAll_18 rfl (by decide) rfl ?_
    refine s_iincK hC dX3_thingsInAll_19 3 rfl (by decide) (fun v5 => [(3, vI v5), (2, vI v4), (0, .ref (b + 1)), (1, vI a1)]) (fun _ => rfl) (fun v5 hv5 => ?_)
    refine s_goto (tgt := 4) hC dX3_thingsInAll_22 (by decide) ?_
    refine s_sub (L' := [(0, .ref (b + 1)), (1, vI a1), (2, vI v4), (3, vI v5)]) [2, 3, 1, 0] rfl ?_
    exact ih4 v4 v5 hv4 hv5
set_option maxHeartbeats 4000000 in
set_option maxRecDepth 100000 in
theorem m_X3_pagesInUse {l : Launch} {G : Gt} {b : Nat} {σ : Blk} {I : Heap → Prop} (hI : ∀ H, I H → Bk G (layBook G b) 98 b σ H) (hσ : Rg σ)  : MetS l yX3_pagesInUse cX3_pagesInUse 3 (some .int) { frames := 0, cells := 0, slots := 0, locals := 0 } G [.ref (b + 1)] I (poP I) (fun _ => False) 0 0 (g_X3_pagesInUse σ) := by
  refine met_of (by decide) (Nat.le_of_ble_eq_true rfl) ?_
  intro p e s m below meth c hC hKA hr _
  have hK := hKA.1
  unfold g_X3_pagesInUse
  refine s_sub (L' := [(0, .ref (b + 1))]) [0] rfl ?_
  refine s_iconst hC dX3_pagesInUse_0 ?_
  refine s_istore_n (L' := [(1, vI 0), (0, .ref (b + 1))]) hC dX3_pagesInUse_1 rfl (by decide) rfl ?_
  refine s_iconst hC dX3_pagesInUse_2 ?_
  refine s_istore_n (L' := [(2, vI 0), (1, vI 0), (0, .ref (b + 1))]) hC dX3_pagesInUse_3 rfl (by decide) rfl ?_
  refine s_sub (L' := [(0, .ref (b + 1)), (1, vI 0), (2, vI 0)]) [2, 1, 0] rfl ?_
  refine s_lp_II (F := g_X3_pagesInUse_L4 σ) 4 (fun x1 x2 => [(0, .ref (b + 1)), (1, vI x1), (2, vI x2)]) (fun _ _ => rfl) (fun n ih4 x1 x2 hx1 hx2 => ?_) fu 0 0 (inR_c _ rfl) (inR_c _ rfl)
  rw [g_X3_pagesInUse_L4]
  refine s_iload_n hC dX3_pagesInUse_4 rfl 2 rfl ?_
  refine s_bipush hC dX3_pagesInUse_5 (by decide) ?_
  refine s_icmp_ge (tgt := 30) hC dX3_pagesInUse_7 (by decide) hx2 (inR_c _ rfl) ?_ ?_
  · refine s_sub (L' := [(1, vI x1)]) [1] rfl ?_
    refine s_iload_n hC dX3_pagesInUse_30 rfl 0 rfl ?_
    exact s_iret hC hr dX3_pagesInUse_31 (fun H hH => ⟨rfl, hx1, hH⟩)
  · refine s_aload_n hC dX3_pagesInUse_10 rfl 0 rfl ?_
    refine s_get (b := b) hC hK hI (by decide) o_Pages rfl q_w_X3 3 (by decide) q_f_X3_21 rfl dX3_pagesInUse_11 ?_
    refine s_iload_n hC dX3_pagesInUse_14 rfl 2 rfl ?_
    refine s_iaload hC hK hI hσ (by decide) a_Book_5 dX3_pagesInUse_15 (fun v3 hv3 => ?_)
    refine s_bipush hC dX3_pagesInUse_16 (by decide) ?_
    refine s_jp_I 24 (fun x5 => [(0, .ref (b + 1)), (1, vI x5), (2, vI x2)]) (fun x5 => []) (fun x5 hx5 => ?_) (fun j4 hj4 => ?_)
    · refine s_iincK hC dX3_pagesInUse_24 2 rfl (by decide) (fun v6 => [(2, vI v6), (0, .ref (b + 1)), (1, vI x5)]) (fun _ => rfl) (fun v6 hv6 => ?_)
      refine s_goto (tgt := 4) hC dX3_pagesInUse_27 (by decide) ?_
      refine s_sub (L' := [(0, .ref (b + 1)), (1, vI x5), (2, vI v6)]) [1, 2, 0] rfl ?_
      exact ih4 x5 v6 hx5 hv6
    · refine s_icmp_ge (tgt := 24) hC dX3_pagesInUse_18 (by decide) hv3 (inR_c _ rfl) ?_ ?_
      · exact hj4 x1 hx1
      · refine s_iincK hC dX3_pagesInUse_21 1 rfl (by decide) (fun v7 => [(1, vI v7), (0, .ref (b + 1)), (2, vI x2)]) (fun _ => rfl) (fun v7 hv7 => ?_)
        refine s_sub (L' := [(0, .ref (b + 1)), (1, vI v7), (2, vI x2)]) [1, 0, 2] rfl ?_
        exact hj4 v7 hv7
set_option maxHeartbeats 4000000 in
set_option maxRecDepth 100000 in
theorem m_X3_freeInAll {l : Launch} {G : Gt} {b : Nat} {σ : Blk} {I : Heap → Prop} (hI : ∀ H, I H → Bk G (layBook G b) 98 b σ H) (hσ : Rg σ)  : MetS l yX3_freeInAll cX3_freeInAll 3 (some .int) { frames := 0, cells := 0, slots := 0, locals := 0 } G [.ref (b + 1)] I (poP I) (fun _ => False) 0 0 (g_X3_freeInAll σ) := by
  refine met_of (by decide) (Nat.le_of_ble_eq_true rfl) ?_
  intro p e s m below meth c hC hKA hr _
  have hK := hKA.1
  unfold g_X3_freeInAll
  refine s_sub (L' := [(0, .ref (b + 1))]) [0] rfl ?_
  refine s_iconst hC dX3_freeInAll_0 ?_
  refine s_istore_n (L' := [(1, vI 0), (0, .ref (b + 1))]) hC dX3_freeInAll_1 rfl (by decide) rfl ?_
  refine s_iconst hC dX3_freeInAll_2 ?_
  refine s_istore_n (L' := [(2, vI 0), (1, vI 0), (0, .ref (b + 1))]) hC dX3_freeInAll_3 rfl (by decide) rfl ?_
  refine s_sub (L' := [(0, .ref (b + 1)), (1, vI 0), (2, vI 0)]) [2, 1, 0] rfl ?_
  refine s_lp_II (F := g_X3_freeInAll_L4 σ) 4 (fun x1 x2 => [(0, .ref (b + 1)), (1, vI x1), (2, vI x2)]) (fun _ _ => rfl) (fun n ih4 x1 x2 hx1 hx2 => ?_) fu 0 0 (inR_c _ rfl) (inR_c _ rfl)
  rw [g_X3_freeInAll_L4]
  refine s_iload_n hC dX3_freeInAll_4 rfl 2 rfl ?_
  refine s_bipush hC dX3_freeInAll_5 (by decide) ?_
  refine s_icmp_ge (tgt := 25) hC dX3_freeInAll_7 (by decide) hx2 (inR_c _ rfl) ?_ ?_
  · refine s_sub (L' := [(1, vI x1)]) [1] rfl ?_
    refine s_iload_n hC dX3_freeInAll_25 rfl 0 rfl ?_
    exact s_iret hC hr dX3_freeInAll_26 (fun H hH => ⟨rfl, hx1, hH⟩)
  · refine s_iload_n hC dX3_freeInAll_10 rfl 1 rfl ?_
    refine s_aload_n hC dX3_freeInAll_11 rfl 0 rfl ?_
    refine s_get (b := b) hC hK hI (by decide) o_Pages rfl q_w_X3 3 (by decide) q_f_X3_21 rfl dX3_freeInAll_12 ?_
    refine s_iload_n hC dX3_freeInAll_15 rfl 2 rfl ?_
    refine s_iaload hC hK hI hσ (by decide) a_Book_5 dX3_freeInAll_16 (fun v3 hv3 => ?_)
    refine s_iadd hC dX3_freeInAll_17 ?_
    refine s_ck0 (fun v4 hv4 => ?_)
    refine s_istore_n (L' := [(1, vI v4), (0, .ref (b + 1)), (2, vI x2)]) hC dX3_freeInAll_18 rfl (by decide) rfl ?_
    refine s_iincK hC dX3_freeInAll_19 2 rfl (by decide) (fun v5 => [(2, vI v5), (1, vI v4), (0, .ref (b + 1))]) (fun _ => rfl) (fun v5 hv5 => ?_)
    refine s_goto (tgt := 4) hC dX3_freeInAll_22 (by decide) ?_
    refine s_sub (L' := [(0, .ref (b + 1)), (1, vI v4), (2, vI v5)]) [2, 1, 0] rfl ?_
    exact ih4 v4 v5 hv4 hv5
set_option maxHeartbeats 4000000 in
set_option maxRecDepth 100000 in
theorem m_X7_copyFrom {l : Launch} {G : Gt} {b : Nat} {σ : Blk} {J : Blk → Heap → Prop} (hJ : Wd G (layBook G b) 98 b J) (hσ : Rg σ) {q0 : Nat} (hq0 : q0 < 30) {b2 : Nat} {τ : Blk} (hO : ∀ σ H, J σ H → Bk G (layBook G b2) 98 b2 τ H) (hτ : Rg τ) {k1 : Nat} (hk1 : k1 < 30) : MetS l yX7_copyFrom cX7_copyFrom 2 none { frames := 1, cells := 0, slots := 0, locals := 44 } G [.ref (b + (8 + 3 * q0)), .ref (b2 + (8 + 3 * k1))] (J σ) (poU J) (Ab b 98) 0 0 (g_X7_copyFrom σ q0 τ k1) := by
  refine met_of (by decide) (Nat.le_of_ble_eq_true rfl) ?_
  intro p e s m below meth c hC hKA hr _
  have hK := hKA.1
  unfold g_X7_copyFrom
  refine s_sub (L' := [(0, .ref (b + (8 + 3 * q0))), (1, .ref (b2 + (8 + 3 * k1)))]) [0, 1] rfl ?_
  refine s_aload_n hC dX7_copyFrom_0 rfl 0 rfl ?_
  refine s_aload_n hC dX7_copyFrom_1 rfl 1 rfl ?_
  refine s_get (b := b2) hC hK (hO σ) (by omega) (o_Row (q := k1)) rfl q_w_X7 0 (by decide) q_f_X7_9 rfl dX7_copyFrom_2 ?_
  refine s_putP (ty := .int) hC hK hJ (fun _ h => h) hσ (hτ (8 + 3 * k1) 0) (by omega) (o_Row (q := q0)) rfl q_w_X7 tyX7_ok nmX7 0 (by decide) q_f_X7_9 rfl (by decide +kernel) rfl rfl (fun _ => Nat.le_of_ble_eq_true rfl) u_Row_0 dX7_copyFrom_5 (fun σ1 hσ1 => ?_)
  refine s_aload_n hC dX7_copyFrom_8 rfl 0 rfl ?_
  refine s_aload_n hC dX7_copyFrom_9 rfl 1 rfl ?_
  refine s_get (b := b2) hC hK (hO σ1) (by omega) (o_Row (q := k1)) rfl q_w_X7 1 (by decide) q_f_X7_15 rfl dX7_copyFrom_10 ?_
  refine s_putP (ty := .int) hC hK hJ (fun _ h => h) hσ1 (hτ (8 + 3 * k1) 1) (by omega) (o_Row (q := q0)) rfl q_w_X7 tyX7_ok nmX7 1 (by decide) q_f_X7_15 rfl (by decide +kernel) rfl rfl (fun _ => Nat.le_of_ble_eq_true rfl) u_Row_1 dX7_copyFrom_13 (fun σ2 hσ2 => ?_)
  refine s_aload_n hC dX7_copyFrom_16 rfl 0 rfl ?_
  refine s_aload_n hC dX7_copyFrom_17 rfl 1 rfl ?_
  refine s_get (b := b2) hC hK (hO σ2) (by omega) (o_Row (q := k1)) rfl q_w_X7 2 (by decide) q_f_X7_18 rfl dX7_copyFrom_18 ?_
  refine s_putP (ty := .int) hC hK hJ (fun _ h => h) hσ2 (hτ (8 + 3 * k1) 2) (by omega) (o_Row (q := q0)) rfl q_w_X7 tyX7_ok nmX7 2 (by decide) q_f_X7_18 rfl (by decide +kernel) rfl rfl (fun _ => Nat.le_of_ble_eq_true rfl) u_Row_2 dX7_copyFrom_21 (fun σ3 hσ3 => ?_)
  refine s_aload_n hC dX7_copyFrom_24 rfl 0 rfl ?_
  refine s_aload_n hC dX7_copyFrom_25 rfl 1 rfl ?_
  refine s_get (b := b2) hC hK (hO σ3) (by omega) (o_Row (q := k1)) rfl q_w_X7 3 (by decide) q_f_X7_21 rfl dX7_copyFrom_26 ?_
  refine s_putP (ty := .int) hC hK hJ (fun _ h => h) hσ3 (hτ (8 + 3 * k1) 3) (by omega) (o_Row (q := q0)) rfl q_w_X7 tyX7_ok nmX7 3 (by decide) q_f_X7_21 rfl (by decide +kernel) rfl rfl (fun _ => Nat.le_of_ble_eq_true rfl) u_Row_3 dX7_copyFrom_29 (fun σ4 hσ4 => ?_)
  refine s_aload_n hC dX7_copyFrom_32 rfl 0 rfl ?_
  refine s_aload_n hC dX7_copyFrom_33 rfl 1 rfl ?_
  refine s_get (b := b2) hC hK (hO σ4) (by omega) (o_Row (q := k1)) rfl q_w_X7 4 (by decide) q_f_X7_24 rfl dX7_copyFrom_34 ?_
  refine s_putP (ty := .int) hC hK hJ (fun _ h => h) hσ4 (hτ (8 + 3 * k1) 4) (by omega) (o_Row (q := q0)) rfl q_w_X7 tyX7_ok nmX7 4 (by decide) q_f_X7_24 rfl (by decide +kernel) rfl rfl (fun _ => Nat.le_of_ble_eq_true rfl) u_Row_4 dX7_copyFrom_37 (fun σ5 hσ5 => ?_)
  refine s_aload_n hC dX7_copyFrom_40 rfl 1 rfl ?_
  refine s_get (b := b2) hC hK (hO σ5) (by omega) (o_Row (q := k1)) rfl q_w_X7 5 (by decide) q_f_X7_27 rfl dX7_copyFrom_41 ?_
  refine s_iconst hC dX7_copyFrom_44 ?_
  refine s_aload_n hC dX7_copyFrom_45 rfl 0 rfl ?_
  refine s_get (b := b) hC hK (hJ.1 σ5) (by omega) (o_Row (q := q0)) rfl q_w_X7 5 (by decide) q_f_X7_27 rfl dX7_copyFrom_46 ?_
  refine s_iconst hC dX7_copyFrom_49 ?_
  refine s_bipush hC dX7_copyFrom_50 (by decide) ?_
  refine s_acopy hC hK hJ (fun _ h => h) hσ5 hτ (hO σ5) (by omega) (a_Spots (q := q0)) (by omega) (a_Spots (q := k1)) rfl q_m_X7_34 (Nat.le_of_ble_eq_true rfl) (Nat.le_of_ble_eq_true rfl) dX7_copyFrom_52 (fun σ6 hσ6 => ?_)
  refine s_aload_n hC dX7_copyFrom_55 rfl 1 rfl ?_
  refine s_get (b := b2) hC hK (hO σ6) (by omega) (o_Row (q := k1)) rfl q_w_X7 6 (by decide) q_f_X7_31 rfl dX7_copyFrom_56 ?_
  refine s_iconst hC dX7_copyFrom_59 ?_
  refine s_aload_n hC dX7_copyFrom_60 rfl 0 rfl ?_
  refine s_get (b := b) hC hK (hJ.1 σ6) (by omega) (o_Row (q := q0)) rfl q_w_X7 6 (by decide) q_f_X7_31 rfl dX7_copyFrom_61 ?_
  refine s_iconst hC dX7_copyFrom_64 ?_
  refine s_bipush hC dX7_copyFrom_65 (by decide) ?_
  refine s_acopy hC hK hJ (fun _ h => h) hσ6 hτ (hO σ6) (by omega) (a_Text (q := q0)) (by omega) (a_Text (q := k1)) rfl q_m_X7_34 (Nat.le_of_ble_eq_true rfl) (Nat.le_of_ble_eq_true rfl) dX7_copyFrom_67 (fun σ7 hσ7 => ?_)
  exact s_vret hC hr dX7_copyFrom_70 (fun H hH => ⟨rfl, hσ7, hH⟩)
set_option maxHeartbeats 4000000 in
set_option maxRecDepth 100000 in
theorem m_X7_hasMoved {l : Launch} {G : Gt} {b : Nat} {σ : Blk} {I : Heap → Prop} (hI : ∀ H, I H → Bk G (layBook G b) 98 b σ H) (hσ : Rg σ) {q0 : Nat} (hq0 : q0 < 30) : MetS l yX7_hasMoved cX7_hasMoved 1 (some .boolean) { frames := 0, cells := 0, slots := 0, locals := 0 } G [.ref (b + (8 + 3 * q0))] I (poP I) (fun _ => False) 0 0 (g_X7_hasMoved σ q0) := by
  refine met_of (by decide) (Nat.le_of_ble_eq_true rfl) ?_
  intro p e s m below meth c hC hKA hr _
  have hK := hKA.1
  unfold g_X7_hasMoved
  refine s_sub (L' := [(0, .ref (b + (8 + 3 * q0)))]) [0] rfl ?_
  refine s_aload_n hC dX7_hasMoved_0 rfl 0 rfl ?_
  refine s_get (b := b) hC hK hI (by omega) (o_Row (q := q0)) rfl q_w_X7 3 (by decide) q_f_X7_21 rfl dX7_hasMoved_1 ?_
  refine s_aload_n hC dX7_hasMoved_4 rfl 0 rfl ?_
  refine s_get (b := b) hC hK hI (by omega) (o_Row (q := q0)) rfl q_w_X7 2 (by decide) q_f_X7_18 rfl dX7_hasMoved_5 ?_
  refine s_icmp_eq (tgt := 15) hC dX7_hasMoved_8 (by decide) (hσ (8 + 3 * q0) 3) (hσ (8 + 3 * q0) 2) ?_ ?_
  · refine s_sub (L' := []) [] rfl ?_
    refine s_iconst hC dX7_hasMoved_15 ?_
    exact s_zret hC hr (Or.inl rfl) dX7_hasMoved_16 (fun H hH => ⟨rfl, (inR_c _ rfl), hH⟩)
  · refine s_sub (L' := []) [] rfl ?_
    refine s_iconst hC dX7_hasMoved_11 ?_
    refine s_goto (tgt := 16) hC dX7_hasMoved_12 (by decide) ?_
    exact s_zret hC hr (Or.inr rfl) dX7_hasMoved_16 (fun H hH => ⟨rfl, (inR_c _ rfl), hH⟩)
set_option maxHeartbeats 4000000 in
set_option maxRecDepth 100000 in
theorem m_X7_cost {l : Launch} {G : Gt} {b : Nat} {σ : Blk} {I : Heap → Prop} (hI : ∀ H, I H → Bk G (layBook G b) 98 b σ H) (hσ : Rg σ) {q0 : Nat} (hq0 : q0 < 30) : MetS l yX7_cost cX7_cost 5 (some .int) { frames := 1, cells := 0, slots := 0, locals := 21 } G [.ref (b + (8 + 3 * q0))] I (poP I) (fun _ => False) 0 0 (g_X7_cost σ q0) := by
  refine met_of (by decide) (Nat.le_of_ble_eq_true rfl) ?_
  intro p e s m below meth c hC hKA hr _
  have hK := hKA.1
  unfold g_X7_cost
  refine s_sub (L' := [(0, .ref (b + (8 + 3 * q0)))]) [0] rfl ?_
  refine s_aload_n hC dX7_cost_0 rfl 0 rfl ?_
  refine s_get (b := b) hC hK hI (by omega) (o_Row (q := q0)) rfl q_w_X7 3 (by decide) q_f_X7_21 rfl dX7_cost_1 ?_
  refine s_bipush hC dX7_cost_4 (by decide) ?_
  refine s_idiv hC dX7_cost_6 (hσ (8 + 3 * q0) 3) (inR_c _ rfl) (by decide) (fun v1 hv1 => ?_)
  refine s_istore_n (L' := [(1, vI v1), (0, .ref (b + (8 + 3 * q0)))]) hC dX7_cost_7 rfl (by decide) rfl ?_
  refine s_iload_n hC dX7_cost_8 rfl 0 rfl ?_
  refine s_aload_n hC dX7_cost_9 rfl 1 rfl ?_
  refine s_get (b := b) hC hK hI (by omega) (o_Row (q := q0)) rfl q_w_X7 2 (by decide) q_f_X7_18 rfl dX7_cost_10 ?_
  refine s_bipush hC dX7_cost_13 (by decide) ?_
  refine s_idiv hC dX7_cost_15 (hσ (8 + 3 * q0) 2) (inR_c _ rfl) (by decide) (fun v2 hv2 => ?_)
  refine s_jp_I 24 (fun x4 => [(0, .ref (b + (8 + 3 * q0))), (1, vI v1)]) (fun x4 => [vI x4]) (fun x4 hx4 => ?_) (fun j3 hj3 => ?_)
  · refine s_istore_n (L' := [(2, vI x4), (0, .ref (b + (8 + 3 * q0))), (1, vI v1)]) hC dX7_cost_24 rfl (by decide) rfl ?_
    refine s_iconst hC dX7_cost_25 ?_
    refine s_istore_n (L' := [(3, vI 0), (2, vI x4), (0, .ref (b + (8 + 3 * q0))), (1, vI v1)]) hC dX7_cost_26 rfl (by decide) rfl ?_
    refine s_sub (L' := [(0, .ref (b + (8 + 3 * q0))), (1, vI v1), (2, vI x4), (3, vI 0)]) [2, 3, 1, 0] rfl ?_
    refine s_lp_III (F := g_X7_cost_L27 σ q0) 27 (fun x5 x6 x7 => [(0, .ref (b + (8 + 3 * q0))), (1, vI x5), (2, vI x6), (3, vI x7)]) (fun _ _ _ => rfl) (fun n ih27 x5 x6 x7 hx5 hx6 hx7 => ?_) fu v1 x4 0 hv1 hx4 (inR_c _ rfl)
    rw [g_X7_cost_L27]
    refine s_iload_n hC dX7_cost_27 rfl 3 rfl ?_
    refine s_aload_n hC dX7_cost_28 rfl 0 rfl ?_
    refine s_get (b := b) hC hK hI (by omega) (o_Row (q := q0)) rfl q_w_X7 4 (by decide) q_f_X7_24 rfl dX7_cost_29 ?_
    refine s_icmp_ge (tgt := 66) hC dX7_cost_32 (by decide) hx7 (hσ (8 + 3 * q0) 4) ?_ ?_
    · refine s_sub (L' := [(2, vI x6)]) [2] rfl ?_
      refine s_iload_n hC dX7_cost_66 rfl 0 rfl ?_
      exact s_iret hC hr dX7_cost_67 (fun H hH => ⟨rfl, hx6, hH⟩)
    · refine s_aload_n hC dX7_cost_35 rfl 0 rfl ?_
      refine s_get (b := b) hC hK hI (by omega) (o_Row (q := q0)) rfl q_w_X7 5 (by decide) q_f_X7_27 rfl dX7_cost_36 ?_
      refine s_iload_n hC dX7_cost_39 rfl 3 rfl ?_
      refine s_callSN_P (As := [.ref (b + (9 + 3 * q0)), vI x7]) (rest := []) hC hKA 2 (m_X4_at hI hσ (by omega) (a_Spots (q := q0)) hx7) rfl (cn_of hC hKA 2 q_c_yX4_at q_i_X4 nwm_X7_40 rfl rfl dd_yX4_at ⟨Nat.le_of_ble_eq_true rfl, Nat.le_of_ble_eq_true rfl⟩) q_s_yX4_at rfl (Nat.le_of_ble_eq_true rfl) dX7_cost_40 ⟨Nat.zero_le _, Nat.zero_le _⟩ (fun r8 hr8 => ?_)
      refine s_bipush hC dX7_cost_43 (by decide) ?_
      refine s_idiv hC dX7_cost_45 hr8 (inR_c _ rfl) (by decide) (fun v9 hv9 => ?_)
      refine s_istore (L' := [(4, vI v9), (0, .ref (b + (8 + 3 * q0))), (1, vI x5), (2, vI x6), (3, vI x7)]) hC dX7_cost_46 (by decide) rfl ?_
      refine s_iload hC dX7_cost_48 0 rfl ?_
      refine s_iload_n hC dX7_cost_50 rfl 2 rfl ?_
      refine s_jp_I 57 (fun x11 => [(0, .ref (b + (8 + 3 * q0))), (2, vI x11), (3, vI x7), (4, vI v9)]) (fun x11 => []) (fun x11 hx11 => ?_) (fun j10 hj10 => ?_)
      · refine s_iload hC dX7_cost_57 3 rfl ?_
        refine s_istore_n (L' := [(1, vI v9), (0, .ref (b + (8 + 3 * q0))), (2, vI x11), (3, vI x7), (4, vI v9)]) hC dX7_cost_59 rfl (by decide) rfl ?_
        refine s_iincK hC dX7_cost_60 3 rfl (by decide) (fun v12 => [(3, vI v12), (1, vI v9), (0, .ref (b + (8 + 3 * q0))), (2, vI x11), (4, vI v9)]) (fun _ => rfl) (fun v12 hv12 => ?_)
        refine s_goto (tgt := 27) hC dX7_cost_63 (by decide) ?_
        refine s_sub (L' := [(0, .ref (b + (8 + 3 * q0))), (1, vI v9), (2, vI x11), (3, vI v12)]) [2, 1, 3, 0] rfl ?_
        exact ih27 v9 x11 v12 hv9 hx11 hv12
      · refine s_icmp_eq (tgt := 57) hC dX7_cost_51 (by decide) hv9 hx5 ?_ ?_
        · refine s_sub (L' := [(0, .ref (b + (8 + 3 * q0))), (2, vI x6), (3, vI x7), (4, vI v9)]) [1, 3, 4, 0] rfl ?_
          exact hj10 x6 hx6
        · refine s_sub (L' := [(0, .ref (b + (8 + 3 * q0))), (2, vI x6), (3, vI x7), (4, vI v9)]) [1, 3, 4, 0] rfl ?_
          refine s_iincK hC dX7_cost_54 1 rfl (by decide) (fun v13 => [(2, vI v13), (0, .ref (b + (8 + 3 * q0))), (3, vI x7), (4, vI v9)]) (fun _ => rfl) (fun v13 hv13 => ?_)
          refine s_sub (L' := [(0, .ref (b + (8 + 3 * q0))), (2, vI v13), (3, vI x7), (4, vI v9)]) [1, 0, 2, 3] rfl ?_
          exact hj10 v13 hv13
  · refine s_icmp_ne (tgt := 23) hC dX7_cost_16 (by decide) hv1 hv2 ?_ ?_
    · refine s_sub (L' := [(0, .ref (b + (8 + 3 * q0))), (1, vI v1)]) [1, 0] rfl ?_
      refine s_iconst hC dX7_cost_23 ?_
      exact hj3 2 (inR_c _ rfl)
    · refine s_sub (L' := [(0, .ref (b + (8 + 3 * q0))), (1, vI v1)]) [1, 0] rfl ?_
      refine s_iconst hC dX7_cost_19 ?_
      refine s_goto (tgt := 24) hC dX7_cost_20 (by decide) ?_
      exact hj3 1 (inR_c _ rfl)
