set_option maxHeartbeats 4000000 in
set_option maxRecDepth 100000 in
theorem m_X3_copyFrom {l : Launch} {G : Gt} {b : Nat} {σ : Blk} {J : Blk → Heap → Prop} (hJ : Wd G (layBook G b) 74 b J) (hσ : Rg σ) {b2 : Nat} {τ : Blk} (hO : ∀ σ H, J σ H → Bk G (layBook G b2) 74 b2 τ H) (hτ : Rg τ) : MetS l yX3_copyFrom cX3_copyFrom 2 none { frames := 1, cells := 0, slots := 0, locals := 44 } G [.ref (b + 1), .ref (b2 + 1)] (J σ) (poU J) (Ab b 74) 0 0 (f_X3_copyFrom σ τ) := by
  refine met_of (by decide) (Nat.le_of_ble_eq_true rfl) ?_
  intro p e s m below meth c hC hKA hr _
  have hK := hKA.1
  unfold f_X3_copyFrom
  refine s_sub (L' := [(0, .ref (b + 1)), (1, .ref (b2 + 1))]) [0, 1] rfl ?_
  refine s_aload_n hC dX3_copyFrom_0 rfl 1 rfl ?_
  refine s_get (b := b2) hC hK (hO σ) (by decide) o_Pages rfl q_w_X3 0 (by decide) q_f_X3_9 rfl dX3_copyFrom_1 ?_
  refine s_iconst hC dX3_copyFrom_4 ?_
  refine s_aload_n hC dX3_copyFrom_5 rfl 0 rfl ?_
  refine s_get (b := b) hC hK (hJ.1 σ) (by decide) o_Pages rfl q_w_X3 0 (by decide) q_f_X3_9 rfl dX3_copyFrom_6 ?_
  refine s_iconst hC dX3_copyFrom_9 ?_
  refine s_sipush hC dX3_copyFrom_10 (by decide) ?_
  refine s_acopy hC hK hJ (fun _ h => h) hσ hτ (hO σ) (by decide) a_Book_2 (by decide) a_Book_2 rfl q_m_X3_30 (Nat.le_of_ble_eq_true rfl) (Nat.le_of_ble_eq_true rfl) dX3_copyFrom_13 (fun σ1 hσ1 => ?_)
  refine s_aload_n hC dX3_copyFrom_16 rfl 1 rfl ?_
  refine s_get (b := b2) hC hK (hO σ1) (by decide) o_Pages rfl q_w_X3 1 (by decide) q_f_X3_15 rfl dX3_copyFrom_17 ?_
  refine s_iconst hC dX3_copyFrom_20 ?_
  refine s_aload_n hC dX3_copyFrom_21 rfl 0 rfl ?_
  refine s_get (b := b) hC hK (hJ.1 σ1) (by decide) o_Pages rfl q_w_X3 1 (by decide) q_f_X3_15 rfl dX3_copyFrom_22 ?_
  refine s_iconst hC dX3_copyFrom_25 ?_
  refine s_sipush hC dX3_copyFrom_26 (by decide) ?_
  refine s_acopy hC hK hJ (fun _ h => h) hσ1 hτ (hO σ1) (by decide) a_Book_3 (by decide) a_Book_3 rfl q_m_X3_30 (Nat.le_of_ble_eq_true rfl) (Nat.le_of_ble_eq_true rfl) dX3_copyFrom_29 (fun σ2 hσ2 => ?_)
  refine s_aload_n hC dX3_copyFrom_32 rfl 1 rfl ?_
  refine s_get (b := b2) hC hK (hO σ2) (by decide) o_Pages rfl q_w_X3 2 (by decide) q_f_X3_18 rfl dX3_copyFrom_33 ?_
  refine s_iconst hC dX3_copyFrom_36 ?_
  refine s_aload_n hC dX3_copyFrom_37 rfl 0 rfl ?_
  refine s_get (b := b) hC hK (hJ.1 σ2) (by decide) o_Pages rfl q_w_X3 2 (by decide) q_f_X3_18 rfl dX3_copyFrom_38 ?_
  refine s_iconst hC dX3_copyFrom_41 ?_
  refine s_sipush hC dX3_copyFrom_42 (by decide) ?_
  refine s_acopy hC hK hJ (fun _ h => h) hσ2 hτ (hO σ2) (by decide) a_Book_4 (by decide) a_Book_4 rfl q_m_X3_30 (Nat.le_of_ble_eq_true rfl) (Nat.le_of_ble_eq_true rfl) dX3_copyFrom_45 (fun σ3 hσ3 => ?_)
  refine s_aload_n hC dX3_copyFrom_48 rfl 1 rfl ?_
  refine s_get (b := b2) hC hK (hO σ3) (by decide) o_Pages rfl q_w_X3 3 (by decide) q_f_X3_21 rfl dX3_copyFrom_49 ?_
  refine s_iconst hC dX3_copyFrom_52 ?_
  refine s_aload_n hC dX3_copyFrom_53 rfl 0 rfl ?_
  refine s_get (b := b) hC hK (hJ.1 σ3) (by decide) o_Pages rfl q_w_X3 3 (by decide) q_f_X3_21 rfl dX3_copyFrom_54 ?_
  refine s_iconst hC dX3_copyFrom_57 ?_
  refine s_bipush hC dX3_copyFrom_58 (by decide) ?_
  refine s_acopy hC hK hJ (fun _ h => h) hσ3 hτ (hO σ3) (by decide) a_Book_5 (by decide) a_Book_5 rfl q_m_X3_30 (Nat.le_of_ble_eq_true rfl) (Nat.le_of_ble_eq_true rfl) dX3_copyFrom_60 (fun σ4 hσ4 => ?_)
  exact s_vret hC hr dX3_copyFrom_63 (fun H hH => ⟨rfl, hσ4, hH⟩)
set_option maxHeartbeats 4000000 in
set_option maxRecDepth 100000 in
theorem m_X3_hasRoom {l : Launch} {G : Gt} {b : Nat} {σ : Blk} {I : Heap → Prop} (hI : ∀ H, I H → Bk G (layBook G b) 74 b σ H) (hσ : Rg σ) {a1 : Int} (h1 : inR a1) {a2 : Int} (h2 : inR a2) : MetS l yX3_hasRoom cX3_hasRoom 3 (some .boolean) { frames := 0, cells := 0, slots := 0, locals := 0 } G [.ref (b + 1), vI a1, vI a2] I (poP I) (fun _ => False) 0 0 (f_X3_hasRoom σ a1 a2) := by
  refine met_of (by decide) (Nat.le_of_ble_eq_true rfl) ?_
  intro p e s m below meth c hC hKA hr _
  have hK := hKA.1
  unfold f_X3_hasRoom
  refine s_sub (L' := [(0, .ref (b + 1)), (1, vI a1), (2, vI a2)]) [0, 1, 2] rfl ?_
  refine s_aload_n hC dX3_hasRoom_0 rfl 0 rfl ?_
  refine s_get (b := b) hC hK hI (by decide) o_Pages rfl q_w_X3 3 (by decide) q_f_X3_21 rfl dX3_hasRoom_1 ?_
  refine s_iload_n hC dX3_hasRoom_4 rfl 1 rfl ?_
  refine s_iaload hC hK hI hσ (by decide) a_Book_5 dX3_hasRoom_5 (fun v1 hv1 => ?_)
  refine s_iload_n hC dX3_hasRoom_6 rfl 2 rfl ?_
  refine s_icmp_lt (tgt := 14) hC dX3_hasRoom_7 (by decide) hv1 h2 ?_ ?_
  · refine s_sub (L' := []) [] rfl ?_
    refine s_iconst hC dX3_hasRoom_14 ?_
    exact s_zret hC hr (Or.inl rfl) dX3_hasRoom_15 (fun H hH => ⟨rfl, (inR_c _ rfl), hH⟩)
  · refine s_sub (L' := []) [] rfl ?_
    refine s_iconst hC dX3_hasRoom_10 ?_
    refine s_goto (tgt := 15) hC dX3_hasRoom_11 (by decide) ?_
    exact s_zret hC hr (Or.inr rfl) dX3_hasRoom_15 (fun H hH => ⟨rfl, (inR_c _ rfl), hH⟩)
set_option maxHeartbeats 4000000 in
set_option maxRecDepth 100000 in
theorem m_X3_lowestGap {l : Launch} {G : Gt} {b : Nat} {σ : Blk} {I : Heap → Prop} (hI : ∀ H, I H → Bk G (layBook G b) 74 b σ H) (hσ : Rg σ) {a1 : Int} (h1 : inR a1) : MetS l yX3_lowestGap cX3_lowestGap 4 (some .int) { frames := 0, cells := 0, slots := 0, locals := 0 } G [.ref (b + 1), vI a1] I (poP I) (fun _ => False) 0 0 (f_X3_lowestGap σ a1) := by
  refine met_of (by decide) (Nat.le_of_ble_eq_true rfl) ?_
  intro p e s m below meth c hC hKA hr _
  have hK := hKA.1
  unfold f_X3_lowestGap
  refine s_sub (L' := [(0, .ref (b + 1)), (1, vI a1)]) [0, 1] rfl ?_
  refine s_iconst hC dX3_lowestGap_0 ?_
  refine s_istore_n (L' := [(2, vI 0), (0, .ref (b + 1)), (1, vI a1)]) hC dX3_lowestGap_1 rfl (by decide) rfl ?_
  refine s_sub (L' := [(0, .ref (b + 1)), (1, vI a1), (2, vI 0)]) [1, 2, 0] rfl ?_
  refine s_lp_I (F := f_X3_lowestGap_L2 σ a1) 2 (fun x1 => [(0, .ref (b + 1)), (1, vI a1), (2, vI x1)]) (fun _ => rfl) (fun n ih2 x1 hx1 => ?_) fu 0 (inR_c _ rfl)
  rw [f_X3_lowestGap_L2]
  refine s_iload_n hC dX3_lowestGap_2 rfl 2 rfl ?_
  refine s_bipush hC dX3_lowestGap_3 (by decide) ?_
  refine s_icmp_ge (tgt := 32) hC dX3_lowestGap_5 (by decide) hx1 (inR_c _ rfl) ?_ ?_
  · refine s_sub (L' := []) [] rfl ?_
    refine s_iconst hC dX3_lowestGap_32 ?_
    exact s_iret hC hr dX3_lowestGap_33 (fun H hH => ⟨rfl, (inR_c _ rfl), hH⟩)
  · refine s_iload_n hC dX3_lowestGap_8 rfl 1 rfl ?_
    refine s_bipush hC dX3_lowestGap_9 (by decide) ?_
    refine s_imul hC dX3_lowestGap_11 ?_
    refine s_iload_n hC dX3_lowestGap_12 rfl 2 rfl ?_
    refine s_iadd hC dX3_lowestGap_13 ?_
    refine s_ck0 (fun v2 hv2 => ?_)
    refine s_istore_n (L' := [(3, vI v2), (0, .ref (b + 1)), (1, vI a1), (2, vI x1)]) hC dX3_lowestGap_14 rfl (by decide) rfl ?_
    refine s_aload_n hC dX3_lowestGap_15 rfl 1 rfl ?_
    refine s_get (b := b) hC hK hI (by decide) o_Pages rfl q_w_X3 0 (by decide) q_f_X3_9 rfl dX3_lowestGap_16 ?_
    refine s_iload_n hC dX3_lowestGap_19 rfl 0 rfl ?_
    refine s_iaload hC hK hI hσ (by decide) a_Book_2 dX3_lowestGap_20 (fun v3 hv3 => ?_)
    refine s_if_ne (tgt := 26) hC dX3_lowestGap_21 (by decide) hv3 ?_ ?_
    · refine s_sub (L' := [(0, .ref (b + 1)), (1, vI a1), (2, vI x1)]) [1, 2, 3] rfl ?_
      refine s_iincK hC dX3_lowestGap_26 2 rfl (by decide) (fun v4 => [(2, vI v4), (0, .ref (b + 1)), (1, vI a1)]) (fun _ => rfl) (fun v4 hv4 => ?_)
      refine s_goto (tgt := 2) hC dX3_lowestGap_29 (by decide) ?_
      refine s_sub (L' := [(0, .ref (b + 1)), (1, vI a1), (2, vI v4)]) [1, 2, 0] rfl ?_
      exact ih2 v4 hv4
    · refine s_sub (L' := [(3, vI v2)]) [0] rfl ?_
      refine s_iload_n hC dX3_lowestGap_24 rfl 0 rfl ?_
      exact s_iret hC hr dX3_lowestGap_25 (fun H hH => ⟨rfl, hv2, hH⟩)
set_option maxHeartbeats 4000000 in
set_option maxRecDepth 100000 in
theorem m_X3_occupy {l : Launch} {G : Gt} {b : Nat} {σ : Blk} {J : Blk → Heap → Prop} (hJ : Wd G (layBook G b) 74 b J) (hσ : Rg σ) {a1 : Int} (h1 : inR a1) {a2 : Int} (h2 : inR a2) {a3 : Int} (h3 : inR a3) {a4 : Int} (h4 : inR a4) : MetS l yX3_occupy cX3_occupy 5 none { frames := 0, cells := 0, slots := 0, locals := 0 } G [.ref (b + 1), vI a1, vI a2, vI a3, vI a4] (J σ) (poU J) (Ab b 74) 0 0 (f_X3_occupy σ a1 a2 a3 a4) := by
  refine met_of (by decide) (Nat.le_of_ble_eq_true rfl) ?_
  intro p e s m below meth c hC hKA hr _
  have hK := hKA.1
  unfold f_X3_occupy
  refine s_sub (L' := [(0, .ref (b + 1)), (1, vI a1), (2, vI a2), (3, vI a3), (4, vI a4)]) [0, 1, 2, 3, 4] rfl ?_
  refine s_aload_n hC dX3_occupy_0 rfl 0 rfl ?_
  refine s_get (b := b) hC hK (hJ.1 σ) (by decide) o_Pages rfl q_w_X3 0 (by decide) q_f_X3_9 rfl dX3_occupy_1 ?_
  refine s_iload_n hC dX3_occupy_4 rfl 1 rfl ?_
  refine s_iload_n hC dX3_occupy_5 rfl 2 rfl ?_
  refine s_iastore hC hK hJ (fun _ h => h) hσ h2 (by decide) a_Book_2 dX3_occupy_6 (fun σ1 hσ1 => ?_)
  refine s_aload_n hC dX3_occupy_7 rfl 0 rfl ?_
  refine s_get (b := b) hC hK (hJ.1 σ1) (by decide) o_Pages rfl q_w_X3 1 (by decide) q_f_X3_15 rfl dX3_occupy_8 ?_
  refine s_iload_n hC dX3_occupy_11 rfl 1 rfl ?_
  refine s_iload_n hC dX3_occupy_12 rfl 3 rfl ?_
  refine s_iastore hC hK hJ (fun _ h => h) hσ1 h3 (by decide) a_Book_3 dX3_occupy_13 (fun σ2 hσ2 => ?_)
  refine s_aload_n hC dX3_occupy_14 rfl 0 rfl ?_
  refine s_get (b := b) hC hK (hJ.1 σ2) (by decide) o_Pages rfl q_w_X3 2 (by decide) q_f_X3_18 rfl dX3_occupy_15 ?_
  refine s_iload_n hC dX3_occupy_18 rfl 1 rfl ?_
  refine s_iload hC dX3_occupy_19 4 rfl ?_
  refine s_iastore hC hK hJ (fun _ h => h) hσ2 h4 (by decide) a_Book_4 dX3_occupy_21 (fun σ3 hσ3 => ?_)
  refine s_aload_n hC dX3_occupy_22 rfl 0 rfl ?_
  refine s_get (b := b) hC hK (hJ.1 σ3) (by decide) o_Pages rfl q_w_X3 3 (by decide) q_f_X3_21 rfl dX3_occupy_23 ?_
  refine s_iload_n hC dX3_occupy_26 rfl 1 rfl ?_
  refine s_bipush hC dX3_occupy_27 (by decide) ?_
  refine s_idiv hC dX3_occupy_29 h1 (inR_c _ rfl) (by decide) (fun v4 hv4 => ?_)
  refine s_dup2 hC dX3_occupy_30 rfl rfl ?_
  refine s_iaload hC hK (hJ.1 σ3) hσ3 (by decide) a_Book_5 dX3_occupy_31 (fun v5 hv5 => ?_)
  refine s_iload hC dX3_occupy_32 4 rfl ?_
  refine s_isub hC dX3_occupy_34 ?_
  refine s_ck0 (fun v6 hv6 => ?_)
  refine s_iastore hC hK hJ (fun _ h => h) hσ3 hv6 (by decide) a_Book_5 dX3_occupy_35 (fun σ7 hσ7 => ?_)
  exact s_vret hC hr dX3_occupy_36 (fun H hH => ⟨rfl, hσ7, hH⟩)
set_option maxHeartbeats 4000000 in
set_option maxRecDepth 100000 in
theorem m_X3_place {l : Launch} {G : Gt} {b : Nat} {σ : Blk} {J : Blk → Heap → Prop} (hJ : Wd G (layBook G b) 74 b J) (hσ : Rg σ) {a1 : Int} (h1 : inR a1) {a2 : Int} (h2 : inR a2) {a3 : Int} (h3 : inR a3) : MetS l yX3_place cX3_place 6 (some .int) { frames := 1, cells := 0, slots := 0, locals := 24 } G [.ref (b + 1), vI a1, vI a2, vI a3] (J σ) (poW J) (Ab b 74) 0 0 (f_X3_place σ a1 a2 a3) := by
  refine met_of (by decide) (Nat.le_of_ble_eq_true rfl) ?_
  intro p e s m below meth c hC hKA hr _
  have hK := hKA.1
  unfold f_X3_place
  refine s_sub (L' := [(0, .ref (b + 1)), (1, vI a1), (2, vI a2), (3, vI a3)]) [0, 1, 2, 3] rfl ?_
  refine s_iconst hC dX3_place_0 ?_
  refine s_istore (L' := [(4, vI 0), (0, .ref (b + 1)), (1, vI a1), (2, vI a2), (3, vI a3)]) hC dX3_place_1 (by decide) rfl ?_
  refine s_sub (L' := [(0, .ref (b + 1)), (1, vI a1), (2, vI a2), (3, vI a3), (4, vI 0)]) [1, 2, 3, 4, 0] rfl ?_
  refine s_lp_I (F := f_X3_place_L3 σ a1 a2 a3) 3 (fun x1 => [(0, .ref (b + 1)), (1, vI a1), (2, vI a2), (3, vI a3), (4, vI x1)]) (fun _ => rfl) (fun n ih3 x1 hx1 => ?_) fu 0 (inR_c _ rfl)
  rw [f_X3_place_L3]
  refine s_iload hC dX3_place_3 4 rfl ?_
  refine s_bipush hC dX3_place_5 (by decide) ?_
  refine s_icmp_ge (tgt := 52) hC dX3_place_7 (by decide) hx1 (inR_c _ rfl) ?_ ?_
  · refine s_sub (L' := []) [] rfl ?_
    refine s_iconst hC dX3_place_52 ?_
    exact s_iret hC hr dX3_place_53 (fun H hH => ⟨rfl, (inR_c _ rfl), hσ, hH⟩)
  · refine s_aload_n hC dX3_place_10 rfl 0 rfl ?_
    refine s_iload hC dX3_place_11 4 rfl ?_
    refine s_iload_n hC dX3_place_13 rfl 3 rfl ?_
    refine s_callV_P (As := [vI x1, vI a3]) (rest := []) (a := b + 1) hC hKA 2 (m_X3_hasRoom (hJ.1 σ) hσ hx1 h3) rfl (cb_of hC 2 q_c_yX3_hasRoom q_i_X3 q_m_X3_36 rfl rfl dd_yX3_hasRoom ⟨Nat.le_of_ble_eq_true rfl, Nat.le_of_ble_eq_true rfl⟩) q_i_yX3_hasRoom q_x_yX3_hasRoom (s_recv hK (hJ.1 σ) (by decide) o_Pages rfl) rfl (Nat.le_of_ble_eq_true rfl) dX3_place_14 ⟨Nat.zero_le _, Nat.zero_le _⟩ (fun r2 hr2 => ?_)
    refine s_if_eq (tgt := 46) hC dX3_place_17 (by decide) hr2 ?_ ?_
    · refine s_iincK hC dX3_place_46 4 rfl (by decide) (fun v3 => [(4, vI v3), (0, .ref (b + 1)), (1, vI a1), (2, vI a2), (3, vI a3)]) (fun _ => rfl) (fun v3 hv3 => ?_)
      refine s_goto (tgt := 3) hC dX3_place_49 (by decide) ?_
      refine s_sub (L' := [(0, .ref (b + 1)), (1, vI a1), (2, vI a2), (3, vI a3), (4, vI v3)]) [1, 2, 3, 4, 0] rfl ?_
      exact ih3 v3 hv3
    · refine s_aload_n hC dX3_place_20 rfl 0 rfl ?_
      refine s_iload hC dX3_place_21 4 rfl ?_
      refine s_callV_P (As := [vI x1]) (rest := []) (a := b + 1) hC hKA 1 (m_X3_lowestGap (hJ.1 σ) hσ hx1) rfl (cb_of hC 1 q_c_yX3_lowestGap q_i_X3 q_m_X3_40 rfl rfl dd_yX3_lowestGap ⟨Nat.le_of_ble_eq_true rfl, Nat.le_of_ble_eq_true rfl⟩) q_i_yX3_lowestGap q_x_yX3_lowestGap (s_recv hK (hJ.1 σ) (by decide) o_Pages rfl) rfl (Nat.le_of_ble_eq_true rfl) dX3_place_23 ⟨Nat.zero_le _, Nat.zero_le _⟩ (fun r4 hr4 => ?_)
      refine s_istore (L' := [(5, vI r4), (0, .ref (b + 1)), (1, vI a1), (2, vI a2), (3, vI a3), (4, vI x1)]) hC dX3_place_26 (by decide) rfl ?_
      refine s_iload hC dX3_place_28 0 rfl ?_
      refine s_iconst hC dX3_place_30 ?_
      refine s_icmp_eq (tgt := 43) hC dX3_place_31 (by decide) hr4 (inR_c _ rfl) ?_ ?_
      · refine s_sub (L' := [(5, vI r4)]) [0] rfl ?_
        refine s_iload hC dX3_place_43 0 rfl ?_
        exact s_iret hC hr dX3_place_45 (fun H hH => ⟨rfl, hr4, hσ, hH⟩)
      · refine s_sub (L' := [(0, .ref (b + 1)), (1, vI a1), (2, vI a2), (3, vI a3), (5, vI r4)]) [1, 2, 3, 4, 0] rfl ?_
        refine s_aload_n hC dX3_place_34 rfl 0 rfl ?_
        refine s_iload hC dX3_place_35 4 rfl ?_
        refine s_iload_n hC dX3_place_37 rfl 1 rfl ?_
        refine s_iload_n hC dX3_place_38 rfl 2 rfl ?_
        refine s_iload_n hC dX3_place_39 rfl 3 rfl ?_
        refine s_callV_U (As := [vI r4, vI a1, vI a2, vI a3]) (rest := []) (a := b + 1) hC hKA 4 (m_X3_occupy hJ hσ hr4 h1 h2 h3) (fun _ h => h) rfl (cb_of hC 4 q_c_yX3_occupy q_i_X3 q_m_X3_44 rfl rfl dd_yX3_occupy ⟨Nat.le_of_ble_eq_true rfl, Nat.le_of_ble_eq_true rfl⟩) q_i_yX3_occupy q_x_yX3_occupy (s_recv hK (hJ.1 σ) (by decide) o_Pages rfl) rfl (Nat.le_of_ble_eq_true rfl) dX3_place_40 ⟨Nat.zero_le _, Nat.zero_le _⟩ (fun σ5 hσ5 => ?_)
        refine s_sub (L' := [(5, vI r4)]) [4] rfl ?_
        refine s_iload hC dX3_place_43 0 rfl ?_
        exact s_iret hC hr dX3_place_45 (fun H hH => ⟨rfl, hr4, hσ5, hH⟩)
set_option maxHeartbeats 4000000 in
set_option maxRecDepth 100000 in
theorem m_X3_vacate {l : Launch} {G : Gt} {b : Nat} {σ : Blk} {J : Blk → Heap → Prop} (hJ : Wd G (layBook G b) 74 b J) (hσ : Rg σ) {a1 : Int} (h1 : inR a1) : MetS l yX3_vacate cX3_vacate 2 none { frames := 0, cells := 0, slots := 0, locals := 0 } G [.ref (b + 1), vI a1] (J σ) (poU J) (Ab b 74) 0 0 (f_X3_vacate σ a1) := by
  refine met_of (by decide) (Nat.le_of_ble_eq_true rfl) ?_
  intro p e s m below meth c hC hKA hr _
  have hK := hKA.1
  unfold f_X3_vacate
  refine s_sub (L' := [(0, .ref (b + 1)), (1, vI a1)]) [0, 1] rfl ?_
  refine s_aload_n hC dX3_vacate_0 rfl 0 rfl ?_
  refine s_get (b := b) hC hK (hJ.1 σ) (by decide) o_Pages rfl q_w_X3 3 (by decide) q_f_X3_21 rfl dX3_vacate_1 ?_
  refine s_iload_n hC dX3_vacate_4 rfl 1 rfl ?_
  refine s_bipush hC dX3_vacate_5 (by decide) ?_
  refine s_idiv hC dX3_vacate_7 h1 (inR_c _ rfl) (by decide) (fun v1 hv1 => ?_)
  refine s_dup2 hC dX3_vacate_8 rfl rfl ?_
  refine s_iaload hC hK (hJ.1 σ) hσ (by decide) a_Book_5 dX3_vacate_9 (fun v2 hv2 => ?_)
  refine s_aload_n hC dX3_vacate_10 rfl 0 rfl ?_
  refine s_get (b := b) hC hK (hJ.1 σ) (by decide) o_Pages rfl q_w_X3 2 (by decide) q_f_X3_18 rfl dX3_vacate_11 ?_
  refine s_iload_n hC dX3_vacate_14 rfl 1 rfl ?_
  refine s_iaload hC hK (hJ.1 σ) hσ (by decide) a_Book_4 dX3_vacate_15 (fun v3 hv3 => ?_)
  refine s_iadd hC dX3_vacate_16 ?_
  refine s_ck0 (fun v4 hv4 => ?_)
  refine s_iastore hC hK hJ (fun _ h => h) hσ hv4 (by decide) a_Book_5 dX3_vacate_17 (fun σ5 hσ5 => ?_)
  refine s_aload_n hC dX3_vacate_18 rfl 0 rfl ?_
  refine s_get (b := b) hC hK (hJ.1 σ5) (by decide) o_Pages rfl q_w_X3 0 (by decide) q_f_X3_9 rfl dX3_vacate_19 ?_
  refine s_iload_n hC dX3_vacate_22 rfl 1 rfl ?_
  refine s_iconst hC dX3_vacate_23 ?_
  refine s_iastore hC hK hJ (fun _ h => h) hσ5 (inR_c _ rfl) (by decide) a_Book_2 dX3_vacate_24 (fun σ6 hσ6 => ?_)
  refine s_aload_n hC dX3_vacate_25 rfl 0 rfl ?_
  refine s_get (b := b) hC hK (hJ.1 σ6) (by decide) o_Pages rfl q_w_X3 2 (by decide) q_f_X3_18 rfl dX3_vacate_26 ?_
  refine s_iload_n hC dX3_vacate_29 rfl 1 rfl ?_
  refine s_iconst hC dX3_vacate_30 ?_
  refine s_iastore hC hK hJ (fun _ h => h) hσ6 (inR_c _ rfl) (by decide) a_Book_4 dX3_vacate_31 (fun σ7 hσ7 => ?_)
  exact s_vret hC hr dX3_vacate_32 (fun H hH => ⟨rfl, hσ7, hH⟩)
set_option maxHeartbeats 4000000 in
set_option maxRecDepth 100000 in
theorem m_X3_clear {l : Launch} {G : Gt} {b : Nat} {σ : Blk} {J : Blk → Heap → Prop} (hJ : Wd G (layBook G b) 74 b J) (hσ : Rg σ)  : MetS l yX3_clear cX3_clear 1 none { frames := 1, cells := 0, slots := 0, locals := 23 } G [.ref (b + 1)] (J σ) (poU J) (Ab b 74) 0 0 (f_X3_clear σ) := by
  refine met_of (by decide) (Nat.le_of_ble_eq_true rfl) ?_
  intro p e s m below meth c hC hKA hr _
  have hK := hKA.1
  unfold f_X3_clear
  refine s_sub (L' := [(0, .ref (b + 1))]) [0] rfl ?_
  refine s_aload_n hC dX3_clear_0 rfl 0 rfl ?_
  refine s_get (b := b) hC hK (hJ.1 σ) (by decide) o_Pages rfl q_w_X3 0 (by decide) q_f_X3_9 rfl dX3_clear_1 ?_
  refine s_iconst hC dX3_clear_4 ?_
  refine s_callS_U (As := [.ref (b + 2), vI 0]) (rest := []) hC hKA 2 (m_J7_fill_53178 hJ hσ (by decide) a_Book_2 (inR_c _ rfl)) (fun _ h => h) rfl (cb_of hC 2 q_c_yJ7_fill_53178 q_i_J7 q_m_X3_24 rfl rfl dd_yJ7_fill_53178 ⟨Nat.le_of_ble_eq_true rfl, Nat.le_of_ble_eq_true rfl⟩) q_s_yJ7_fill_53178 rfl (Nat.le_of_ble_eq_true rfl) dX3_clear_5 ⟨Nat.zero_le _, Nat.zero_le _⟩ (fun σ1 hσ1 => ?_)
  refine s_aload_n hC dX3_clear_8 rfl 0 rfl ?_
  refine s_get (b := b) hC hK (hJ.1 σ1) (by decide) o_Pages rfl q_w_X3 2 (by decide) q_f_X3_18 rfl dX3_clear_9 ?_
  refine s_iconst hC dX3_clear_12 ?_
  refine s_callS_U (As := [.ref (b + 4), vI 0]) (rest := []) hC hKA 2 (m_J7_fill_53178 hJ hσ1 (by decide) a_Book_4 (inR_c _ rfl)) (fun _ h => h) rfl (cb_of hC 2 q_c_yJ7_fill_53178 q_i_J7 q_m_X3_24 rfl rfl dd_yJ7_fill_53178 ⟨Nat.le_of_ble_eq_true rfl, Nat.le_of_ble_eq_true rfl⟩) q_s_yJ7_fill_53178 rfl (Nat.le_of_ble_eq_true rfl) dX3_clear_13 ⟨Nat.zero_le _, Nat.zero_le _⟩ (fun σ2 hσ2 => ?_)
  refine s_aload_n hC dX3_clear_16 rfl 0 rfl ?_
  refine s_get (b := b) hC hK (hJ.1 σ2) (by decide) o_Pages rfl q_w_X3 3 (by decide) q_f_X3_21 rfl dX3_clear_17 ?_
  refine s_bipush hC dX3_clear_20 (by decide) ?_
  refine s_callS_U (As := [.ref (b + 5), vI 40]) (rest := []) hC hKA 2 (m_J7_fill_53178 hJ hσ2 (by decide) a_Book_5 (inR_c _ rfl)) (fun _ h => h) rfl (cb_of hC 2 q_c_yJ7_fill_53178 q_i_J7 q_m_X3_24 rfl rfl dd_yJ7_fill_53178 ⟨Nat.le_of_ble_eq_true rfl, Nat.le_of_ble_eq_true rfl⟩) q_s_yJ7_fill_53178 rfl (Nat.le_of_ble_eq_true rfl) dX3_clear_22 ⟨Nat.zero_le _, Nat.zero_le _⟩ (fun σ3 hσ3 => ?_)
  exact s_vret hC hr dX3_clear_25 (fun H hH => ⟨rfl, hσ3, hH⟩)
set_option maxHeartbeats 4000000 in
set_option maxRecDepth 100000 in
theorem m_X3_slotsOf {l : Launch} {G : Gt} {b : Nat} {σ : Blk} {I : Heap → Prop} (hI : ∀ H, I H → Bk G (layBook G b) 74 b σ H) (hσ : Rg σ) {a1 : Int} (h1 : inR a1) : MetS l yX3_slotsOf cX3_slotsOf 3 (some .int) { frames := 0, cells := 0, slots := 0, locals := 0 } G [.ref (b + 1), vI a1] I (poP I) (fun _ => False) 0 0 (f_X3_slotsOf σ a1) := by
  refine met_of (by decide) (Nat.le_of_ble_eq_true rfl) ?_
  intro p e s m below meth c hC hKA hr _
  have hK := hKA.1
  unfold f_X3_slotsOf
  refine s_sub (L' := [(0, .ref (b + 1)), (1, vI a1)]) [0, 1] rfl ?_
  refine s_bipush hC dX3_slotsOf_0 (by decide) ?_
  refine s_istore_n (L' := [(2, vI 39), (0, .ref (b + 1)), (1, vI a1)]) hC dX3_slotsOf_2 rfl (by decide) rfl ?_
  refine s_sub (L' := [(0, .ref (b + 1)), (1, vI a1), (2, vI 39)]) [1, 2, 0] rfl ?_
  refine s_lp_I (F := f_X3_slotsOf_L3 σ a1) 3 (fun x1 => [(0, .ref (b + 1)), (1, vI a1), (2, vI x1)]) (fun _ => rfl) (fun n ih3 x1 hx1 => ?_) fu 39 (inR_c _ rfl)
  rw [f_X3_slotsOf_L3]
  refine s_iload_n hC dX3_slotsOf_3 rfl 2 rfl ?_
  refine s_if_lt (tgt := 31) hC dX3_slotsOf_4 (by decide) hx1 ?_ ?_
  · refine s_sub (L' := []) [] rfl ?_
    refine s_iconst hC dX3_slotsOf_31 ?_
    exact s_iret hC hr dX3_slotsOf_32 (fun H hH => ⟨rfl, (inR_c _ rfl), hH⟩)
  · refine s_aload_n hC dX3_slotsOf_7 rfl 0 rfl ?_
    refine s_get (b := b) hC hK hI (by decide) o_Pages rfl q_w_X3 0 (by decide) q_f_X3_9 rfl dX3_slotsOf_8 ?_
    refine s_iload_n hC dX3_slotsOf_11 rfl 1 rfl ?_
    refine s_bipush hC dX3_slotsOf_12 (by decide) ?_
    refine s_imul hC dX3_slotsOf_14 ?_
    refine s_iload_n hC dX3_slotsOf_15 rfl 2 rfl ?_
    refine s_iadd hC dX3_slotsOf_16 ?_
    refine s_iaload hC hK hI hσ (by decide) a_Book_2 dX3_slotsOf_17 (fun v2 hv2 => ?_)
    refine s_if_eq (tgt := 25) hC dX3_slotsOf_18 (by decide) hv2 ?_ ?_
    · refine s_iincK hC dX3_slotsOf_25 2 rfl (by decide) (fun v3 => [(2, vI v3), (0, .ref (b + 1)), (1, vI a1)]) (fun _ => rfl) (fun v3 hv3 => ?_)
      refine s_goto (tgt := 3) hC dX3_slotsOf_28 (by decide) ?_
      refine s_sub (L' := [(0, .ref (b + 1)), (1, vI a1), (2, vI v3)]) [1, 2, 0] rfl ?_
      exact ih3 v3 hv3
    · refine s_sub (L' := [(2, vI x1)]) [2] rfl ?_
      refine s_iload_n hC dX3_slotsOf_21 rfl 0 rfl ?_
      refine s_iconst hC dX3_slotsOf_22 ?_
      refine s_iadd hC dX3_slotsOf_23 ?_
      refine s_ck0 (fun v4 hv4 => ?_)
      exact s_iret hC hr dX3_slotsOf_24 (fun H hH => ⟨rfl, hv4, hH⟩)
set_option maxHeartbeats 4000000 in
set_option maxRecDepth 100000 in
theorem m_X3_thingsOn {l : Launch} {G : Gt} {b : Nat} {σ : Blk} {I : Heap → Prop} (hI : ∀ H, I H → Bk G (layBook G b) 74 b σ H) (hσ : Rg σ) {a1 : Int} (h1 : inR a1) {a2 : Int} (h2 : inR a2) : MetS l yX3_thingsOn cX3_thingsOn 6 (some .int) { frames := 1, cells := 0, slots := 0, locals := 22 } G [.ref (b + 1), vI a1, vI a2] I (poP I) (fun _ => False) 0 0 (f_X3_thingsOn σ a1 a2) := by
  refine met_of (by decide) (Nat.le_of_ble_eq_true rfl) ?_
  intro p e s m below meth c hC hKA hr _
  have hK := hKA.1
  unfold f_X3_thingsOn
  refine s_sub (L' := [(0, .ref (b + 1)), (1, vI a1), (2, vI a2)]) [0, 1, 2] rfl ?_
  refine s_aload_n hC dX3_thingsOn_0 rfl 0 rfl ?_
  refine s_iload_n hC dX3_thingsOn_1 rfl 1 rfl ?_
  refine s_callV_P (As := [vI a1]) (rest := []) (a := b + 1) hC hKA 1 (m_X3_slotsOf hI hσ h1) rfl (cb_of hC 1 q_c_yX3_slotsOf q_i_X3 q_m_X3_48 rfl rfl dd_yX3_slotsOf ⟨Nat.le_of_ble_eq_true rfl, Nat.le_of_ble_eq_true rfl⟩) q_i_yX3_slotsOf q_x_yX3_slotsOf (s_recv hK hI (by decide) o_Pages rfl) rfl (Nat.le_of_ble_eq_true rfl) dX3_thingsOn_2 ⟨Nat.zero_le _, Nat.zero_le _⟩ (fun r1 hr1 => ?_)
  refine s_istore_n (L' := [(3, vI r1), (0, .ref (b + 1)), (1, vI a1), (2, vI a2)]) hC dX3_thingsOn_5 rfl (by decide) rfl ?_
  refine s_iconst hC dX3_thingsOn_6 ?_
  refine s_istore (L' := [(4, vI 0), (3, vI r1), (0, .ref (b + 1)), (1, vI a1), (2, vI a2)]) hC dX3_thingsOn_7 (by decide) rfl ?_
  refine s_iconst hC dX3_thingsOn_9 ?_
  refine s_istore (L' := [(5, vI 0), (4, vI 0), (3, vI r1), (0, .ref (b + 1)), (1, vI a1), (2, vI a2)]) hC dX3_thingsOn_10 (by decide) rfl ?_
  refine s_sub (L' := [(0, .ref (b + 1)), (1, vI a1), (2, vI a2), (3, vI r1), (4, vI 0), (5, vI 0)]) [3, 4, 5, 2, 1, 0] rfl ?_
  refine s_lp_II (F := f_X3_thingsOn_L12 σ a1 a2 r1) 12 (fun x2 x3 => [(0, .ref (b + 1)), (1, vI a1), (2, vI a2), (3, vI r1), (4, vI x2), (5, vI x3)]) (fun _ _ => rfl) (fun n ih12 x2 x3 hx2 hx3 => ?_) fu 0 0 (inR_c _ rfl) (inR_c _ rfl)
  rw [f_X3_thingsOn_L12]
  refine s_iload hC dX3_thingsOn_12 5 rfl ?_
  refine s_iload_n hC dX3_thingsOn_14 rfl 3 rfl ?_
  refine s_icmp_ge (tgt := 43) hC dX3_thingsOn_15 (by decide) hx3 hr1 ?_ ?_
  · refine s_sub (L' := [(4, vI x2)]) [4] rfl ?_
    refine s_iload hC dX3_thingsOn_43 0 rfl ?_
    exact s_iret hC hr dX3_thingsOn_45 (fun H hH => ⟨rfl, hx2, hH⟩)
  · refine s_aload_n hC dX3_thingsOn_18 rfl 0 rfl ?_
    refine s_get (b := b) hC hK hI (by decide) o_Pages rfl q_w_X3 0 (by decide) q_f_X3_9 rfl dX3_thingsOn_19 ?_
    refine s_iload_n hC dX3_thingsOn_22 rfl 1 rfl ?_
    refine s_bipush hC dX3_thingsOn_23 (by decide) ?_
    refine s_imul hC dX3_thingsOn_25 ?_
    refine s_iload hC dX3_thingsOn_26 5 rfl ?_
    refine s_iadd hC dX3_thingsOn_28 ?_
    refine s_iaload hC hK hI hσ (by decide) a_Book_2 dX3_thingsOn_29 (fun v4 hv4 => ?_)
    refine s_iload_n hC dX3_thingsOn_30 rfl 2 rfl ?_
    refine s_jp_I 37 (fun x6 => [(0, .ref (b + 1)), (1, vI a1), (2, vI a2), (3, vI r1), (4, vI x6), (5, vI x3)]) (fun x6 => []) (fun x6 hx6 => ?_) (fun j5 hj5 => ?_)
    · refine s_iincK hC dX3_thingsOn_37 5 rfl (by decide) (fun v7 => [(5, vI v7), (0, .ref (b + 1)), (1, vI a1), (2, vI a2), (3, vI r1), (4, vI x6)]) (fun _ => rfl) (fun v7 hv7 => ?_)
      refine s_goto (tgt := 12) hC dX3_thingsOn_40 (by decide) ?_
      refine s_sub (L' := [(0, .ref (b + 1)), (1, vI a1), (2, vI a2), (3, vI r1), (4, vI x6), (5, vI v7)]) [1, 2, 3, 4, 5, 0] rfl ?_
      exact ih12 x6 v7 hx6 hv7
    · refine s_icmp_ne (tgt := 37) hC dX3_thingsOn_31 (by decide) hv4 h2 ?_ ?_
      · exact hj5 x2 hx2
      · refine s_iincK hC dX3_thingsOn_34 4 rfl (by decide) (fun v8 => [(4, vI v8), (0, .ref (b + 1)), (1, vI a1), (2, vI a2), (3, vI r1), (5, vI x3)]) (fun _ => rfl) (fun v8 hv8 => ?_)
        refine s_sub (L' := [(0, .ref (b + 1)), (1, vI a1), (2, vI a2), (3, vI r1), (4, vI v8), (5, vI x3)]) [1, 2, 3, 4, 0, 5] rfl ?_
        exact hj5 v8 hv8
set_option maxHeartbeats 4000000 in
set_option maxRecDepth 100000 in
theorem m_X3_thingsInAll {l : Launch} {G : Gt} {b : Nat} {σ : Blk} {I : Heap → Prop} (hI : ∀ H, I H → Bk G (layBook G b) 74 b σ H) (hσ : Rg σ) {a1 : Int} (h1 : inR a1) : MetS l yX3_thingsInAll cX3_thingsInAll 4 (some .int) { frames := 2, cells := 0, slots := 0, locals := 47 } G [.ref (b + 1), vI a1] I (poP I) (fun _ => False) 0 0 (f_X3_thingsInAll σ a1) := by
  refine met_of (by decide) (Nat.le_of_ble_eq_true rfl) ?_
  intro p e s m below meth c hC hKA hr _
  have hK := hKA.1
  unfold f_X3_thingsInAll
  refine s_sub (L' := [(0, .ref (b + 1)), (1, vI a1)]) [0, 1] rfl ?_
  refine s_iconst hC dX3_thingsInAll_0 ?_
  refine s_istore_n (L' := [(2, vI 0), (0, .ref (b + 1)), (1, vI a1)]) hC dX3_thingsInAll_1 rfl (by decide) rfl ?_
  refine s_iconst hC dX3_thingsInAll_2 ?_
  refine s_istore_n (L' := [(3, vI 0), (2, vI 0), (0, .ref (b + 1)), (1, vI a1)]) hC dX3_thingsInAll_3 rfl (by decide) rfl ?_
  refine s_sub (L' := [(0, .ref (b + 1)), (1, vI a1), (2, vI 0), (3, vI 0)]) [2, 3, 1, 0] rfl ?_
  refine s_lp_II (F := f_X3_thingsInAll_L4 σ a1) 4 (fun x1 x2 => [(0, .ref (b + 1)), (1, vI a1), (2, vI x1), (3, vI x2)]) (fun _ _ => rfl) (fun n ih4 x1 x2 hx1 hx2 => ?_) fu 0 0 (inR_c _ rfl) (inR_c _ rfl)
  rw [f_X3_thingsInAll_L4]
  refine s_iload_n hC dX3_thingsInAll_4 rfl 3 rfl ?_
  refine s_bipush hC dX3_thingsInAll_5 (by decide) ?_
  refine s_icmp_ge (tgt := 25) hC dX3_thingsInAll_7 (by decide) hx2 (inR_c _ rfl) ?_ ?_
  · refine s_sub (L' := [(2, vI x1)]) [2] rfl ?_
    refine s_iload_n hC dX3_thingsInAll_25 rfl 0 rfl ?_
    exact s_iret hC hr dX3_thingsInAll_26 (fun H hH => ⟨rfl, hx1, hH⟩)
  · refine s_iload_n hC dX3_thingsInAll_10 rfl 2 rfl ?_
    refine s_aload_n hC dX3_thingsInAll_11 rfl 0 rfl ?_
    refine s_iload_n hC dX3_thingsInAll_12 rfl 3 rfl ?_
    refine s_iload_n hC dX3_thingsInAll_13 rfl 1 rfl ?_
    refine s_callV_P (As := [vI x2, vI a1]) (rest := [vI x1]) (a := b + 1) hC hKA 2 (m_X3_thingsOn hI hσ hx2 h1) rfl (cb_of hC 2 q_c_yX3_thingsOn q_i_X3 q_m_X3_51 rfl rfl dd_yX3_thingsOn ⟨Nat.le_of_ble_eq_true rfl, Nat.le_of_ble_eq_true rfl⟩) q_i_yX3_thingsOn q_x_yX3_thingsOn (s_recv hK hI (by decide) o_Pages rfl) rfl (Nat.le_of_ble_eq_true rfl) dX3_thingsInAll_14 ⟨Nat.zero_le _, Nat.zero_le _⟩ (fun r3 hr3 => ?_)
    refine s_iadd hC dX3_thingsInAll_17 ?_
    refine s_ck0 (fun v4 hv4 => ?_)
    refine s_istore_n (L' := [(2, vI v4), (0, .ref (b + 1)), (1, vI a1), (3, vI x2)]) hC dX3_thingsInAll_18 rfl (by decide) rfl ?_
    refine s_iincK hC dX3_thingsInAll_19 3 rfl (by decide) (fun v5 => [(3, vI v5), (2, vI v4), (0, .ref (b + 1)), (1, vI a1)]) (fun _ => rfl) (fun v5 hv5 => ?_)
    refine s_goto (tgt := 4) hC dX3_thingsInAll_22 (by decide) ?_
    refine s_sub (L' := [(0, .ref (b + 1)), (1, vI a1), (2, vI v4), (3, vI v5)]) [2, 3, 1, 0] rfl ?_
    exact ih4 v4 v5 hv4 hv5
set_option maxHeartbeats 4000000 in
set_option maxRecDepth 100000 in
theorem m_X3_pagesInUse {l : Launch} {G : Gt} {b : Nat} {σ : Blk} {I : Heap → Prop} (hI : ∀ H, I H → Bk G (layBook G b) 74 b σ H) (hσ : Rg σ)  : MetS l yX3_pagesInUse cX3_pagesInUse 3 (some .int) { frames := 0, cells := 0, slots := 0, locals := 0 } G [.ref (b + 1)] I (poP I) (fun _ => False) 0 0 (f_X3_pagesInUse σ) := by
  refine met_of (by decide) (Nat.le_of_ble_eq_true rfl) ?_
  intro p e s m below meth c hC hKA hr _
  have hK := hKA.1
  unfold f_X3_pagesInUse
  refine s_sub (L' := [(0, .ref (b + 1))]) [0] rfl ?_
  refine s_iconst hC dX3_pagesInUse_0 ?_
  refine s_istore_n (L' := [(1, vI 0), (0, .ref (b + 1))]) hC dX3_pagesInUse_1 rfl (by decide) rfl ?_
  refine s_iconst hC dX3_pagesInUse_2 ?_
  refine s_istore_n (L' := [(2, vI 0), (1, vI 0), (0, .ref (b + 1))]) hC dX3_pagesInUse_3 rfl (by decide) rfl ?_
  refine s_sub (L' := [(0, .ref (b + 1)), (1, vI 0), (2, vI 0)]) [2, 1, 0] rfl ?_
  refine s_lp_II (F := f_X3_pagesInUse_L4 σ) 4 (fun x1 x2 => [(0, .ref (b + 1)), (1, vI x1), (2, vI x2)]) (fun _ _ => rfl) (fun n ih4 x1 x2 hx1 hx2 => ?_) fu 0 0 (inR_c _ rfl) (inR_c _ rfl)
  rw [f_X3_pagesInUse_L4]
  refine s_iload_n hC dX3_pagesInUse_4 rfl 2 rfl ?_
  refine s_bipush hC dX3_pagesInUse_5 (by decide) ?_
  refine s_icmp_ge (tgt := 30) hC dX3_pagesInUse_7 (by decide) hx2 (inR_c _ rfl) ?_ ?_
  · refine s_sub (L' := [(1, vI x1)]) [1] rfl ?_
    refine s_iload_n hC dX3_pagesInUse_30 rfl 0 rfl ?_
    exact s_iret hC hr dX3_pagesInUse_31 (fun H hH => ⟨rfl, hx1, hH⟩)
  · refine s_aload_n hC dX3_pagesInUse_10 rfl 0 rfl ?_
    refine s_get (b := b) hC hK hI (by decide) o_Pages rfl q_w_X3 3 (by decide) q_f_X3_21 rfl dX3_pagesInUse_11 ?_
    refine s_iload_n hC dX3_pagesInUse_14 rfl 2 rfl ?_
    refine s_iaload hC hK hI hσ (by decide) a_Book_5 dX3_pagesInUse_15 (fun v3 hv3 => ?_)
    refine s_bipush hC dX3_pagesInUse_16 (by decide) ?_
    refine s_jp_I 24 (fun x5 => [(0, .ref (b + 1)), (1, vI x5), (2, vI x2)]) (fun x5 => []) (fun x5 hx5 => ?_) (fun j4 hj4 => ?_)
    · refine s_iincK hC dX3_pagesInUse_24 2 rfl (by decide) (fun v6 => [(2, vI v6), (0, .ref (b + 1)), (1, vI x5)]) (fun _ => rfl) (fun v6 hv6 => ?_)
      refine s_goto (tgt := 4) hC dX3_pagesInUse_27 (by decide) ?_
      refine s_sub (L' := [(0, .ref (b + 1)), (1, vI x5), (2, vI v6)]) [1, 2, 0] rfl ?_
      exact ih4 x5 v6 hx5 hv6
    · refine s_icmp_ge (tgt := 24) hC dX3_pagesInUse_18 (by decide) hv3 (inR_c _ rfl) ?_ ?_
      · exact hj4 x1 hx1
      · refine s_iincK hC dX3_pagesInUse_21 1 rfl (by decide) (fun v7 => [(1, vI v7), (0, .ref (b + 1)), (2, vI x2)]) (fun _ => rfl) (fun v7 hv7 => ?_)
        refine s_sub (L' := [(0, .ref (b + 1)), (1, vI v7), (2, vI x2)]) [1, 0, 2] rfl ?_
        exact hj4 v7 hv7
set_option maxHeartbeats 4000000 in
set_option maxRecDepth 100000 in
theorem m_X3_freeInAll {l : Launch} {G : Gt} {b : Nat} {σ : Blk} {I : Heap → Prop} (hI : ∀ H, I H → Bk G (layBook G b) 74 b σ H) (hσ : Rg σ)  : MetS l yX3_freeInAll cX3_freeInAll 3 (some .int) { frames := 0, cells := 0, slots := 0, locals := 0 } G [.ref (b + 1)] I (poP I) (fun _ => False) 0 0 (f_X3_freeInAll σ) := by
  refine met_of (by decide) (Nat.le_of_ble_eq_true rfl) ?_
  intro p e s m below meth c hC hKA hr _
  have hK := hKA.1
  unfold f_X3_freeInAll
  refine s_sub (L' := [(0, .ref (b + 1))]) [0] rfl ?_
  refine s_iconst hC dX3_freeInAll_0 ?_
  refine s_istore_n (L' := [(1, vI 0), (0, .ref (b + 1))]) hC dX3_freeInAll_1 rfl (by decide) rfl ?_
  refine s_iconst hC dX3_freeInAll_2 ?_
  refine s_istore_n (L' := [(2, vI 0), (1, vI 0), (0, .ref (b + 1))]) hC dX3_freeInAll_3 rfl (by decide) rfl ?_
  refine s_sub (L' := [(0, .ref (b + 1)), (1, vI 0), (2, vI 0)]) [2, 1, 0] rfl ?_
  refine s_lp_II (F := f_X3_freeInAll_L4 σ) 4 (fun x1 x2 => [(0, .ref (b + 1)), (1, vI x1), (2, vI x2)]) (fun _ _ => rfl) (fun n ih4 x1 x2 hx1 hx2 => ?_) fu 0 0 (inR_c _ rfl) (inR_c _ rfl)
  rw [f_X3_freeInAll_L4]
  refine s_iload_n hC dX3_freeInAll_4 rfl 2 rfl ?_
  refine s_bipush hC dX3_freeInAll_5 (by decide) ?_
  refine s_icmp_ge (tgt := 25) hC dX3_freeInAll_7 (by decide) hx2 (inR_c _ rfl) ?_ ?_
  · refine s_sub (L' := [(1, vI x1)]) [1] rfl ?_
    refine s_iload_n hC dX3_freeInAll_25 rfl 0 rfl ?_
    exact s_iret hC hr dX3_freeInAll_26 (fun H hH => ⟨rfl, hx1, hH⟩)
  · refine s_iload_n hC dX3_freeInAll_10 rfl 1 rfl ?_
    refine s_aload_n hC dX3_freeInAll_11 rfl 0 rfl ?_
    refine s_get (b := b) hC hK hI (by decide) o_Pages rfl q_w_X3 3 (by decide) q_f_X3_21 rfl dX3_freeInAll_12 ?_
    refine s_iload_n hC dX3_freeInAll_15 rfl 2 rfl ?_
    refine s_iaload hC hK hI hσ (by decide) a_Book_5 dX3_freeInAll_16 (fun v3 hv3 => ?_)
    refine s_iadd hC dX3_freeInAll_17 ?_
    refine s_ck0 (fun v4 hv4 => ?_)
    refine s_istore_n (L' := [(1, vI v4), (0, .ref (b + 1)), (2, vI x2)]) hC dX3_freeInAll_18 rfl (by decide) rfl ?_
    refine s_iincK hC dX3_freeInAll_19 2 rfl (by decide) (fun v5 => [(2, vI v5), (1, vI v4), (0, .ref (b + 1))]) (fun _ => rfl) (fun v5 hv5 => ?_)
    refine s_goto (tgt := 4) hC dX3_freeInAll_22 (by decide) ?_
    refine s_sub (L' := [(0, .ref (b + 1)), (1, vI v4), (2, vI v5)]) [2, 1, 0] rfl ?_
    exact ih4 v4 v5 hv4 hv5
