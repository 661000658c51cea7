set_option maxHeartbeats 4000000 in
set_option maxRecDepth 100000 in
theorem m_X0_copyFrom {l : Launch} {G : Gt} {b : Nat} {σ : Blk} {J : Blk → Heap → Prop} (hJ : Wd G (layBook G b) 98 b J) (hσ : Rg σ) {b2 : Nat} {τ : Blk} (hO : ∀ σ H, J σ H → Bk G (layBook G b2) 98 b2 τ H) (hτ : Rg τ) : MetS l yX0_copyFrom cX0_copyFrom 5 none { frames := 2, cells := 0, slots := 0, locals := 65 } G [.ref (b + 0), .ref (b2 + 0)] (J σ) (poU J) (Ab b 98) 0 0 (g_X0_copyFrom σ τ) := by
  refine met_of (by decide) (Nat.le_of_ble_eq_true rfl) ?_
  intro p e s m below meth c hC hKA hr _
  have hK := hKA.1
  unfold g_X0_copyFrom
  refine s_sub (L' := [(0, .ref (b + 0)), (1, .ref (b2 + 0))]) [0, 1] rfl ?_
  refine s_aload_n hC dX0_copyFrom_0 rfl 0 rfl ?_
  refine s_aload_n hC dX0_copyFrom_1 rfl 1 rfl ?_
  refine s_get (b := b2) hC hK (hO σ) (by decide) o_Book rfl q_w_X0 0 (by decide) q_f_X0_9 rfl dX0_copyFrom_2 ?_
  refine s_putP (ty := .int) hC hK hJ (fun _ h => h) hσ (hτ 0 0) (by decide) o_Book rfl q_w_X0 tyX0_ok nmX0 0 (by decide) q_f_X0_9 rfl (by decide +kernel) rfl rfl (fun _ => Nat.le_of_ble_eq_true rfl) u_Book_0 dX0_copyFrom_5 (fun σ1 hσ1 => ?_)
  refine s_aload_n hC dX0_copyFrom_8 rfl 0 rfl ?_
  refine s_aload_n hC dX0_copyFrom_9 rfl 1 rfl ?_
  refine s_get (b := b2) hC hK (hO σ1) (by decide) o_Book rfl q_w_X0 1 (by decide) q_f_X0_15 rfl dX0_copyFrom_10 ?_
  refine s_putP (ty := .int) hC hK hJ (fun _ h => h) hσ1 (hτ 0 1) (by decide) o_Book rfl q_w_X0 tyX0_ok nmX0 1 (by decide) q_f_X0_15 rfl (by decide +kernel) rfl rfl (fun _ => Nat.le_of_ble_eq_true rfl) u_Book_1 dX0_copyFrom_13 (fun σ2 hσ2 => ?_)
  refine s_aload_n hC dX0_copyFrom_16 rfl 0 rfl ?_
  refine s_aload_n hC dX0_copyFrom_17 rfl 1 rfl ?_
  refine s_get (b := b2) hC hK (hO σ2) (by decide) o_Book rfl q_w_X0 2 (by decide) q_f_X0_18 rfl dX0_copyFrom_18 ?_
  refine s_putP (ty := .int) hC hK hJ (fun _ h => h) hσ2 (hτ 0 2) (by decide) o_Book rfl q_w_X0 tyX0_ok nmX0 2 (by decide) q_f_X0_18 rfl (by decide +kernel) rfl rfl (fun _ => Nat.le_of_ble_eq_true rfl) u_Book_2 dX0_copyFrom_21 (fun σ3 hσ3 => ?_)
  refine s_aload_n hC dX0_copyFrom_24 rfl 0 rfl ?_
  refine s_get (b := b) hC hK (hJ.1 σ3) (by decide) o_Book rfl q_w_X0 3 (by decide) q_f_X0_24 rfl dX0_copyFrom_25 ?_
  refine s_aload_n hC dX0_copyFrom_28 rfl 1 rfl ?_
  refine s_get (b := b2) hC hK (hO σ3) (by decide) o_Book rfl q_w_X0 3 (by decide) q_f_X0_24 rfl dX0_copyFrom_29 ?_
  refine s_callV_U (As := [.ref (b2 + 1)]) (rest := []) (a := b + 1) hC hKA 1 (m_X3_copyFrom hJ hσ3 hO hτ) (fun _ h => h) rfl (cb_of hC 1 q_c_yX3_copyFrom q_i_X3 q_m_X0_45 rfl rfl dd_yX3_copyFrom ⟨Nat.le_of_ble_eq_true rfl, Nat.le_of_ble_eq_true rfl⟩) q_i_yX3_copyFrom q_x_yX3_copyFrom (s_recv hK (hJ.1 σ3) (by decide) o_Pages rfl) rfl (Nat.le_of_ble_eq_true rfl) dX0_copyFrom_32 ⟨Nat.zero_le _, Nat.zero_le _⟩ (fun σ4 hσ4 => ?_)
  refine s_iconst hC dX0_copyFrom_35 ?_
  refine s_istore_n (L' := [(2, vI 0), (0, .ref (b + 0)), (1, .ref (b2 + 0))]) hC dX0_copyFrom_36 rfl (by decide) rfl ?_
  refine s_sub (L' := [(0, .ref (b + 0)), (1, .ref (b2 + 0)), (2, vI 0)]) [1, 2, 0] rfl ?_
  refine s_jp_B (J := J) 79 ([(0, .ref (b + 0)), (1, .ref (b2 + 0))]) ([]) (fun σ6 hσ6 => ?_) (fun j5 hj5 => ?_)
  · refine s_aload_n hC dX0_copyFrom_79 rfl 1 rfl ?_
    refine s_get (b := b2) hC hK (hO σ6) (by decide) o_Book rfl q_w_X0 5 (by decide) q_f_X0_34 rfl dX0_copyFrom_80 ?_
    refine s_iconst hC dX0_copyFrom_83 ?_
    refine s_aload_n hC dX0_copyFrom_84 rfl 0 rfl ?_
    refine s_get (b := b) hC hK (hJ.1 σ6) (by decide) o_Book rfl q_w_X0 5 (by decide) q_f_X0_34 rfl dX0_copyFrom_85 ?_
    refine s_iconst hC dX0_copyFrom_88 ?_
    refine s_bipush hC dX0_copyFrom_89 (by decide) ?_
    refine s_acopy hC hK hJ (fun _ h => h) hσ6 hτ (hO σ6) (by decide) a_Book_7 (by decide) a_Book_7 rfl q_m_X0_52 (Nat.le_of_ble_eq_true rfl) (Nat.le_of_ble_eq_true rfl) dX0_copyFrom_91 (fun σ7 hσ7 => ?_)
    exact s_vret hC hr dX0_copyFrom_94 (fun H hH => ⟨rfl, hσ7, hH⟩)
  · refine s_lp_IB (J := J) (F := g_X0_copyFrom_L37 τ j5) 37 (fun x8 => [(0, .ref (b + 0)), (1, .ref (b2 + 0)), (2, vI x8)]) (fun _ _ => rfl) (fun n ih37 x8 σ9 hx8 hσ9 => ?_) fu 0 σ4 (inR_c _ rfl) hσ4
    rw [g_X0_copyFrom_L37]
    refine s_iload_n hC dX0_copyFrom_37 rfl 2 rfl ?_
    refine s_bipush hC dX0_copyFrom_38 (by decide) ?_
    refine s_icmp_ge (tgt := 79) hC dX0_copyFrom_40 (by decide) hx8 (inR_c _ rfl) ?_ ?_
    · refine s_sub (L' := [(0, .ref (b + 0)), (1, .ref (b2 + 0))]) [0, 1] rfl ?_
      exact hj5 σ9 hσ9
    · refine s_aload_n hC dX0_copyFrom_43 rfl 0 rfl ?_
      refine s_get (b := b) hC hK (hJ.1 σ9) (by decide) o_Book rfl q_w_X0 4 (by decide) q_f_X0_30 rfl dX0_copyFrom_44 ?_
      refine s_iload_n hC dX0_copyFrom_47 rfl 2 rfl ?_
      refine s_aaldW (b := b) hC hK (hJ.1 σ9) (by decide) q_Book_6 dX0_copyFrom_48 (fun q10 hq10 => ?_)
      refine s_astore_n (L' := [(3, .ref (b + (8 + 3 * q10))), (0, .ref (b + 0)), (1, .ref (b2 + 0)), (2, vI x8)]) hC dX0_copyFrom_49 rfl (by decide) rfl ?_
      refine s_aload_n hC dX0_copyFrom_50 rfl 2 rfl ?_
      refine s_get (b := b2) hC hK (hO σ9) (by decide) o_Book rfl q_w_X0 4 (by decide) q_f_X0_30 rfl dX0_copyFrom_51 ?_
      refine s_iload_n hC dX0_copyFrom_54 rfl 3 rfl ?_
      refine s_aaldW (b := b2) hC hK (hO σ9) (by decide) q_Book_6 dX0_copyFrom_55 (fun q11 hq11 => ?_)
      refine s_astore (L' := [(4, .ref (b2 + (8 + 3 * q11))), (3, .ref (b + (8 + 3 * q10))), (0, .ref (b + 0)), (1, .ref (b2 + 0)), (2, vI x8)]) hC dX0_copyFrom_56 (by decide) rfl ?_
      refine s_aload_n hC dX0_copyFrom_58 rfl 1 rfl ?_
      refine s_jp_B (J := J) 73 ([(0, .ref (b + 0)), (1, .ref (b2 + 0)), (2, vI x8)]) ([]) (fun σ13 hσ13 => ?_) (fun j12 hj12 => ?_)
      · refine s_iincK hC dX0_copyFrom_73 2 rfl (by decide) (fun v14 => [(2, vI v14), (0, .ref (b + 0)), (1, .ref (b2 + 0))]) (fun _ => rfl) (fun v14 hv14 => ?_)
        refine s_goto (tgt := 37) hC dX0_copyFrom_76 (by decide) ?_
        refine s_sub (L' := [(0, .ref (b + 0)), (1, .ref (b2 + 0)), (2, vI v14)]) [1, 2, 0] rfl ?_
        exact ih37 v14 σ13 hv14 hσ13
      · refine s_ifnullW hC dX0_copyFrom_59 ?_
        refine s_sub (L' := [(0, .ref (b + 0)), (1, .ref (b2 + 0)), (2, vI x8), (3, .ref (b + (8 + 3 * q10))), (4, .ref (b2 + (8 + 3 * q11)))]) [2, 3, 4, 1, 0] rfl ?_
        refine s_aload hC dX0_copyFrom_62 4 rfl ?_
        refine s_ifnullW hC dX0_copyFrom_64 ?_
        refine s_aload_n hC dX0_copyFrom_67 rfl 3 rfl ?_
        refine s_aload hC dX0_copyFrom_68 4 rfl ?_
        refine s_callV_U (As := [.ref (b2 + (8 + 3 * q11))]) (rest := []) (a := b + (8 + 3 * q10)) hC hKA 1 (m_X7_copyFrom hJ hσ9 hq10 hO hτ hq11) (fun _ h => h) rfl (cb_of hC 1 q_c_yX7_copyFrom q_i_X7 q_m_X0_49 rfl rfl dd_yX7_copyFrom ⟨Nat.le_of_ble_eq_true rfl, Nat.le_of_ble_eq_true rfl⟩) q_i_yX7_copyFrom q_x_yX7_copyFrom (s_recv hK (hJ.1 σ9) (by omega) (o_Row (q := q10)) rfl) rfl (Nat.le_of_ble_eq_true rfl) dX0_copyFrom_70 ⟨Nat.zero_le _, Nat.zero_le _⟩ (fun σ15 hσ15 => ?_)
        refine s_sub (L' := [(0, .ref (b + 0)), (1, .ref (b2 + 0)), (2, vI x8)]) [0, 1, 2] rfl ?_
        exact hj12 σ15 hσ15
set_option maxHeartbeats 4000000 in
set_option maxRecDepth 100000 in
theorem m_X0_rowOf {l : Launch} {G : Gt} {b : Nat} {σ : Blk} {I : Heap → Prop} (hI : ∀ H, I H → Bk G (layBook G b) 98 b σ H) (hσ : Rg σ) {a1 : Int} (h1 : inR a1) : MetS l yX0_rowOf cX0_rowOf 3 (some (.object "OverflowRows$Row")) { frames := 1, cells := 0, slots := 0, locals := 21 } G [.ref (b + 0), vI a1] I (poR I b) (fun _ => False) 0 0 (g_X0_rowOf σ a1) := by
  refine met_of (by decide) (Nat.le_of_ble_eq_true rfl) ?_
  intro p e s m below meth c hC hKA hr _
  have hK := hKA.1
  unfold g_X0_rowOf
  refine s_sub (L' := [(0, .ref (b + 0)), (1, vI a1)]) [0, 1] rfl ?_
  refine s_aload_n hC dX0_rowOf_0 rfl 0 rfl ?_
  refine s_get (b := b) hC hK hI (by decide) o_Book rfl q_w_X0 5 (by decide) q_f_X0_34 rfl dX0_rowOf_1 ?_
  refine s_iload_n hC dX0_rowOf_4 rfl 1 rfl ?_
  refine s_callSN_P (As := [.ref (b + 7), vI a1]) (rest := []) hC hKA 2 (m_X4_at hI hσ (by decide) a_Book_7 h1) rfl (cn_of hC hKA 2 q_c_yX4_at q_i_X4 nwm_X0_58 rfl rfl dd_yX4_at ⟨Nat.le_of_ble_eq_true rfl, Nat.le_of_ble_eq_true rfl⟩) q_s_yX4_at rfl (Nat.le_of_ble_eq_true rfl) dX0_rowOf_5 ⟨Nat.zero_le _, Nat.zero_le _⟩ (fun r1 hr1 => ?_)
  refine s_istore_n (L' := [(2, vI r1), (0, .ref (b + 0)), (1, vI a1)]) hC dX0_rowOf_8 rfl (by decide) rfl ?_
  refine s_iload_n hC dX0_rowOf_9 rfl 0 rfl ?_
  refine s_if_lt (tgt := 19) hC dX0_rowOf_10 (by decide) hr1 ?_ ?_
  · refine s_sub (L' := []) [] rfl ?_
    refine s_null hC dX0_rowOf_19 ?_
    refine s_goto (tgt := 29) hC dX0_rowOf_20 (by decide) ?_
    exact s_aret hC hr (-1) rfl dX0_rowOf_29 (fun H hH => ⟨rfl, hH⟩)
  · refine s_sub (L' := [(0, .ref (b + 0)), (2, vI r1)]) [1, 0] rfl ?_
    refine s_iload_n hC dX0_rowOf_13 rfl 1 rfl ?_
    refine s_bipush hC dX0_rowOf_14 (by decide) ?_
    refine s_icmp_lt (tgt := 23) hC dX0_rowOf_16 (by decide) hr1 (inR_c _ rfl) ?_ ?_
    · refine s_aload_n hC dX0_rowOf_23 rfl 0 rfl ?_
      refine s_get (b := b) hC hK hI (by decide) o_Book rfl q_w_X0 4 (by decide) q_f_X0_30 rfl dX0_rowOf_24 ?_
      refine s_iload_n hC dX0_rowOf_27 rfl 1 rfl ?_
      refine s_aaldW (b := b) hC hK hI (by decide) q_Book_6 dX0_rowOf_28 (fun q2 hq2 => ?_)
      refine s_sub (L' := []) [] rfl ?_
      exact s_aret hC hr (q2 : Int) rfl dX0_rowOf_29 (fun H hH => ⟨rfl, hH⟩)
    · refine s_sub (L' := []) [] rfl ?_
      refine s_null hC dX0_rowOf_19 ?_
      refine s_goto (tgt := 29) hC dX0_rowOf_20 (by decide) ?_
      exact s_aret hC hr (-1) rfl dX0_rowOf_29 (fun H hH => ⟨rfl, hH⟩)
set_option maxHeartbeats 4000000 in
set_option maxRecDepth 100000 in
theorem m_X0_liftPieces {l : Launch} {G : Gt} {b : Nat} {σ : Blk} {J : Blk → Heap → Prop} (hJ : Wd G (layBook G b) 98 b J) (hσ : Rg σ) {k1 : Nat} (hk1 : k1 < 30) : MetS l yX0_liftPieces cX0_liftPieces 3 none { frames := 1, cells := 0, slots := 0, locals := 21 } G [.ref (b + 0), .ref (b + (8 + 3 * k1))] (J σ) (poU J) (Ab b 98) 0 0 (g_X0_liftPieces σ k1) := by
  refine met_of (by decide) (Nat.le_of_ble_eq_true rfl) ?_
  intro p e s m below meth c hC hKA hr _
  have hK := hKA.1
  unfold g_X0_liftPieces
  refine s_sub (L' := [(0, .ref (b + 0)), (1, .ref (b + (8 + 3 * k1)))]) [0, 1] rfl ?_
  refine s_iconst hC dX0_liftPieces_0 ?_
  refine s_istore_n (L' := [(2, vI 0), (0, .ref (b + 0)), (1, .ref (b + (8 + 3 * k1)))]) hC dX0_liftPieces_1 rfl (by decide) rfl ?_
  refine s_sub (L' := [(0, .ref (b + 0)), (1, .ref (b + (8 + 3 * k1))), (2, vI 0)]) [1, 2, 0] rfl ?_
  refine s_jp_B (J := J) 31 ([(1, .ref (b + (8 + 3 * k1)))]) ([]) (fun σ2 hσ2 => ?_) (fun j1 hj1 => ?_)
  · refine s_aload_n hC dX0_liftPieces_31 rfl 0 rfl ?_
    refine s_iconst hC dX0_liftPieces_32 ?_
    refine s_putP (ty := .int) hC hK hJ (fun _ h => h) hσ2 (inR_c _ rfl) (by omega) (o_Row (q := k1)) rfl q_w_X7 tyX7_ok nmX7 4 (by decide) q_f_X0_128 rfl (by decide +kernel) rfl rfl (fun _ => Nat.le_of_ble_eq_true rfl) u_Row_4 dX0_liftPieces_33 (fun σ3 hσ3 => ?_)
    exact s_vret hC hr dX0_liftPieces_36 (fun H hH => ⟨rfl, hσ3, hH⟩)
  · refine s_lp_IB (J := J) (F := g_X0_liftPieces_L2 k1 j1) 2 (fun x4 => [(0, .ref (b + 0)), (1, .ref (b + (8 + 3 * k1))), (2, vI x4)]) (fun _ _ => rfl) (fun n ih2 x4 σ5 hx4 hσ5 => ?_) fu 0 σ (inR_c _ rfl) hσ
    rw [g_X0_liftPieces_L2]
    refine s_iload_n hC dX0_liftPieces_2 rfl 2 rfl ?_
    refine s_aload_n hC dX0_liftPieces_3 rfl 1 rfl ?_
    refine s_get (b := b) hC hK (hJ.1 σ5) (by omega) (o_Row (q := k1)) rfl q_w_X7 4 (by decide) q_f_X0_128 rfl dX0_liftPieces_4 ?_
    refine s_icmp_ge (tgt := 31) hC dX0_liftPieces_7 (by decide) hx4 (hσ5 (8 + 3 * k1) 4) ?_ ?_
    · refine s_sub (L' := [(1, .ref (b + (8 + 3 * k1)))]) [1] rfl ?_
      exact hj1 σ5 hσ5
    · refine s_aload_n hC dX0_liftPieces_10 rfl 0 rfl ?_
      refine s_get (b := b) hC hK (hJ.1 σ5) (by decide) o_Book rfl q_w_X0 3 (by decide) q_f_X0_24 rfl dX0_liftPieces_11 ?_
      refine s_aload_n hC dX0_liftPieces_14 rfl 1 rfl ?_
      refine s_get (b := b) hC hK (hJ.1 σ5) (by omega) (o_Row (q := k1)) rfl q_w_X7 5 (by decide) q_f_X0_137 rfl dX0_liftPieces_15 ?_
      refine s_iload_n hC dX0_liftPieces_18 rfl 2 rfl ?_
      refine s_callSN_P (As := [.ref (b + (9 + 3 * k1)), vI x4]) (rest := [.ref (b + 1)]) hC hKA 2 (m_X4_at (hJ.1 σ5) hσ5 (by omega) (a_Spots (q := k1)) hx4) rfl (cn_of hC hKA 2 q_c_yX4_at q_i_X4 nwm_X0_58 rfl rfl dd_yX4_at ⟨Nat.le_of_ble_eq_true rfl, Nat.le_of_ble_eq_true rfl⟩) q_s_yX4_at rfl (Nat.le_of_ble_eq_true rfl) dX0_liftPieces_19 ⟨Nat.zero_le _, Nat.zero_le _⟩ (fun r6 hr6 => ?_)
      refine s_callV_U (As := [vI r6]) (rest := []) (a := b + 1) hC hKA 1 (m_X3_vacate hJ hσ5 hr6) (fun _ h => h) rfl (cb_of hC 1 q_c_yX3_vacate q_i_X3 q_m_X0_106 rfl rfl dd_yX3_vacate ⟨Nat.le_of_ble_eq_true rfl, Nat.le_of_ble_eq_true rfl⟩) q_i_yX3_vacate q_x_yX3_vacate (s_recv hK (hJ.1 σ5) (by decide) o_Pages rfl) rfl (Nat.le_of_ble_eq_true rfl) dX0_liftPieces_22 ⟨Nat.zero_le _, Nat.zero_le _⟩ (fun σ7 hσ7 => ?_)
      refine s_iincK hC dX0_liftPieces_25 2 rfl (by decide) (fun v8 => [(2, vI v8), (0, .ref (b + 0)), (1, .ref (b + (8 + 3 * k1)))]) (fun _ => rfl) (fun v8 hv8 => ?_)
      refine s_goto (tgt := 2) hC dX0_liftPieces_28 (by decide) ?_
      refine s_sub (L' := [(0, .ref (b + 0)), (1, .ref (b + (8 + 3 * k1))), (2, vI v8)]) [1, 2, 0] rfl ?_
      exact ih2 v8 σ7 hv8 hσ7
set_option maxHeartbeats 4000000 in
set_option maxRecDepth 100000 in
theorem m_X0_headLetters {l : Launch} {G : Gt} {b : Nat} {σ : Blk} {I : Heap → Prop} (hI : ∀ H, I H → Bk G (layBook G b) 98 b σ H) (hσ : Rg σ) {k1 : Nat} (hk1 : k1 < 30) : MetS l yX0_headLetters cX0_headLetters 2 (some .int) { frames := 1, cells := 0, slots := 0, locals := 21 } G [.ref (b + 0), .ref (b + (8 + 3 * k1))] I (poP I) (fun _ => False) 0 0 (g_X0_headLetters σ k1) := by
  refine met_of (by decide) (Nat.le_of_ble_eq_true rfl) ?_
  intro p e s m below meth c hC hKA hr _
  have hK := hKA.1
  unfold g_X0_headLetters
  refine s_sub (L' := [(0, .ref (b + 0)), (1, .ref (b + (8 + 3 * k1)))]) [0, 1] rfl ?_
  refine s_aload_n hC dX0_headLetters_0 rfl 1 rfl ?_
  refine s_get (b := b) hC hK hI (by omega) (o_Row (q := k1)) rfl q_w_X7 1 (by decide) q_f_X0_66 rfl dX0_headLetters_1 ?_
  refine s_aload_n hC dX0_headLetters_4 rfl 0 rfl ?_
  refine s_get (b := b) hC hK hI (by decide) o_Book rfl q_w_X0 0 (by decide) q_f_X0_9 rfl dX0_headLetters_5 ?_
  refine s_mmin hC (hσ (8 + 3 * k1) 1) (hσ 0 0) q_m_X0_131 q_s_Lib_Math_min_name q_i_J9 q_c_yJ9_min_7cf53 (Nat.le_of_ble_eq_true rfl) (Nat.le_of_ble_eq_true rfl) ⟨Nat.zero_le _, Nat.zero_le _⟩ dX0_headLetters_8 ?_
  exact s_iret hC hr dX0_headLetters_11 (fun H hH => ⟨rfl, (imin_in (hσ (8 + 3 * k1) 1) (hσ 0 0)), hH⟩)
set_option maxHeartbeats 4000000 in
set_option maxRecDepth 100000 in
theorem m_X0_headCells {l : Launch} {G : Gt} {b : Nat} {σ : Blk} {I : Heap → Prop} (hI : ∀ H, I H → Bk G (layBook G b) 98 b σ H) (hσ : Rg σ) {k1 : Nat} (hk1 : k1 < 30) : MetS l yX0_headCells cX0_headCells 2 (some .int) { frames := 2, cells := 0, slots := 0, locals := 42 } G [.ref (b + 0), .ref (b + (8 + 3 * k1))] I (poP I) (fun _ => False) 0 0 (g_X0_headCells σ k1) := by
  refine met_of (by decide) (Nat.le_of_ble_eq_true rfl) ?_
  intro p e s m below meth c hC hKA hr _
  have hK := hKA.1
  unfold g_X0_headCells
  refine s_sub (L' := [(0, .ref (b + 0)), (1, .ref (b + (8 + 3 * k1)))]) [0, 1] rfl ?_
  refine s_iconst hC dX0_headCells_0 ?_
  refine s_aload_n hC dX0_headCells_1 rfl 0 rfl ?_
  refine s_aload_n hC dX0_headCells_2 rfl 1 rfl ?_
  refine s_callV_P (As := [.ref (b + (8 + 3 * k1))]) (rest := [vI 2]) (a := b + 0) hC hKA 1 (m_X0_headLetters hI hσ hk1) rfl (cb_of hC 1 q_c_yX0_headLetters q_i_X0 q_m_X0_125 rfl rfl dd_yX0_headLetters ⟨Nat.le_of_ble_eq_true rfl, Nat.le_of_ble_eq_true rfl⟩) q_i_yX0_headLetters q_x_yX0_headLetters (s_recv hK hI (by decide) o_Book rfl) rfl (Nat.le_of_ble_eq_true rfl) dX0_headCells_3 ⟨Nat.zero_le _, Nat.zero_le _⟩ (fun r1 hr1 => ?_)
  refine s_iadd hC dX0_headCells_6 ?_
  refine s_ck0 (fun v2 hv2 => ?_)
  exact s_iret hC hr dX0_headCells_7 (fun H hH => ⟨rfl, hv2, hH⟩)
set_option maxHeartbeats 4000000 in
set_option maxRecDepth 100000 in
theorem m_X0_layHeadAgain {l : Launch} {G : Gt} {b : Nat} {σ : Blk} {J : Blk → Heap → Prop} (hJ : Wd G (layBook G b) 98 b J) (hσ : Rg σ) {k1 : Nat} (hk1 : k1 < 30) : MetS l yX0_layHeadAgain cX0_layHeadAgain 3 (some .int) { frames := 3, cells := 0, slots := 0, locals := 69 } G [.ref (b + 0), .ref (b + (8 + 3 * k1))] (J σ) (poW J) (Ab b 98) 0 0 (g_X0_layHeadAgain σ k1) := by
  refine met_of (by decide) (Nat.le_of_ble_eq_true rfl) ?_
  intro p e s m below meth c hC hKA hr _
  have hK := hKA.1
  unfold g_X0_layHeadAgain
  refine s_sub (L' := [(0, .ref (b + 0)), (1, .ref (b + (8 + 3 * k1)))]) [0, 1] rfl ?_
  refine s_aload_n hC dX0_layHeadAgain_0 rfl 0 rfl ?_
  refine s_aload_n hC dX0_layHeadAgain_1 rfl 1 rfl ?_
  refine s_callV_P (As := [.ref (b + (8 + 3 * k1))]) (rest := []) (a := b + 0) hC hKA 1 (m_X0_headCells (hJ.1 σ) hσ hk1) rfl (cb_of hC 1 q_c_yX0_headCells q_i_X0 q_m_X0_86 rfl rfl dd_yX0_headCells ⟨Nat.le_of_ble_eq_true rfl, Nat.le_of_ble_eq_true rfl⟩) q_i_yX0_headCells q_x_yX0_headCells (s_recv hK (hJ.1 σ) (by decide) o_Book rfl) rfl (Nat.le_of_ble_eq_true rfl) dX0_layHeadAgain_2 ⟨Nat.zero_le _, Nat.zero_le _⟩ (fun r1 hr1 => ?_)
  refine s_istore_n (L' := [(2, vI r1), (0, .ref (b + 0)), (1, .ref (b + (8 + 3 * k1)))]) hC dX0_layHeadAgain_5 rfl (by decide) rfl ?_
  refine s_aload_n hC dX0_layHeadAgain_6 rfl 1 rfl ?_
  refine s_get (b := b) hC hK (hJ.1 σ) (by decide) o_Book rfl q_w_X0 3 (by decide) q_f_X0_24 rfl dX0_layHeadAgain_7 ?_
  refine s_aload_n hC dX0_layHeadAgain_10 rfl 2 rfl ?_
  refine s_get (b := b) hC hK (hJ.1 σ) (by omega) (o_Row (q := k1)) rfl q_w_X7 3 (by decide) q_f_X0_97 rfl dX0_layHeadAgain_11 ?_
  refine s_bipush hC dX0_layHeadAgain_14 (by decide) ?_
  refine s_idiv hC dX0_layHeadAgain_16 (hσ (8 + 3 * k1) 3) (inR_c _ rfl) (by decide) (fun v2 hv2 => ?_)
  refine s_iload_n hC dX0_layHeadAgain_17 rfl 0 rfl ?_
  refine s_callV_P (As := [vI v2, vI r1]) (rest := []) (a := b + 1) hC hKA 2 (m_X3_hasRoom (hJ.1 σ) hσ hv2 hr1) rfl (cb_of hC 2 q_c_yX3_hasRoom q_i_X3 q_m_X0_113 rfl rfl dd_yX3_hasRoom ⟨Nat.le_of_ble_eq_true rfl, Nat.le_of_ble_eq_true rfl⟩) q_i_yX3_hasRoom q_x_yX3_hasRoom (s_recv hK (hJ.1 σ) (by decide) o_Pages rfl) rfl (Nat.le_of_ble_eq_true rfl) dX0_layHeadAgain_18 ⟨Nat.zero_le _, Nat.zero_le _⟩ (fun r3 hr3 => ?_)
  refine s_if_eq (tgt := 46) hC dX0_layHeadAgain_21 (by decide) hr3 ?_ ?_
  · refine s_sub (L' := [(0, .ref (b + 0)), (1, .ref (b + (8 + 3 * k1))), (2, vI r1)]) [1, 2, 0] rfl ?_
    refine s_aload_n hC dX0_layHeadAgain_46 rfl 1 rfl ?_
    refine s_callV_P (As := []) (rest := []) (a := b + (8 + 3 * k1)) hC hKA 0 (m_X7_hasMoved (hJ.1 σ) hσ hk1) rfl (cb_of hC 0 q_c_yX7_hasMoved q_i_X7 q_m_X0_121 rfl rfl dd_yX7_hasMoved ⟨Nat.le_of_ble_eq_true rfl, Nat.le_of_ble_eq_true rfl⟩) q_i_yX7_hasMoved q_x_yX7_hasMoved (s_recv hK (hJ.1 σ) (by omega) (o_Row (q := k1)) rfl) rfl (Nat.le_of_ble_eq_true rfl) dX0_layHeadAgain_47 ⟨Nat.zero_le _, Nat.zero_le _⟩ (fun r4 hr4 => ?_)
    refine s_if_ne (tgt := 84) hC dX0_layHeadAgain_50 (by decide) hr4 ?_ ?_
    · refine s_aload_n hC dX0_layHeadAgain_84 rfl 0 rfl ?_
      refine s_get (b := b) hC hK (hJ.1 σ) (by decide) o_Book rfl q_w_X0 3 (by decide) q_f_X0_24 rfl dX0_layHeadAgain_85 ?_
      refine s_aload_n hC dX0_layHeadAgain_88 rfl 1 rfl ?_
      refine s_get (b := b) hC hK (hJ.1 σ) (by omega) (o_Row (q := k1)) rfl q_w_X7 2 (by decide) q_f_X0_94 rfl dX0_layHeadAgain_89 ?_
      refine s_bipush hC dX0_layHeadAgain_92 (by decide) ?_
      refine s_idiv hC dX0_layHeadAgain_94 (hσ (8 + 3 * k1) 2) (inR_c _ rfl) (by decide) (fun v5 hv5 => ?_)
      refine s_iload_n hC dX0_layHeadAgain_95 rfl 2 rfl ?_
      refine s_iconst hC dX0_layHeadAgain_96 ?_
      refine s_isub hC dX0_layHeadAgain_97 ?_
      refine s_ck0 (fun v6 hv6 => ?_)
      refine s_callV_P (As := [vI v5, vI v6]) (rest := []) (a := b + 1) hC hKA 2 (m_X3_hasRoom (hJ.1 σ) hσ hv5 hv6) rfl (cb_of hC 2 q_c_yX3_hasRoom q_i_X3 q_m_X0_113 rfl rfl dd_yX3_hasRoom ⟨Nat.le_of_ble_eq_true rfl, Nat.le_of_ble_eq_true rfl⟩) q_i_yX3_hasRoom q_x_yX3_hasRoom (s_recv hK (hJ.1 σ) (by decide) o_Pages rfl) rfl (Nat.le_of_ble_eq_true rfl) dX0_layHeadAgain_98 ⟨Nat.zero_le _, Nat.zero_le _⟩ (fun r7 hr7 => ?_)
      refine s_if_eq (tgt := 137) hC dX0_layHeadAgain_101 (by decide) hr7 ?_ ?_
      · refine s_aload_n hC dX0_layHeadAgain_137 rfl 0 rfl ?_
        refine s_get (b := b) hC hK (hJ.1 σ) (by decide) o_Book rfl q_w_X0 3 (by decide) q_f_X0_24 rfl dX0_layHeadAgain_138 ?_
        refine s_iconst hC dX0_layHeadAgain_141 ?_
        refine s_aload_n hC dX0_layHeadAgain_142 rfl 1 rfl ?_
        refine s_get (b := b) hC hK (hJ.1 σ) (by omega) (o_Row (q := k1)) rfl q_w_X7 0 (by decide) q_f_X0_79 rfl dX0_layHeadAgain_143 ?_
        refine s_iload_n hC dX0_layHeadAgain_146 rfl 2 rfl ?_
        refine s_callV_W (As := [vI 1, vI (σ (8 + 3 * k1) 0), vI r1]) (rest := []) (a := b + 1) hC hKA 3 (m_X3_place hJ hσ (inR_c _ rfl) (hσ (8 + 3 * k1) 0) hr1) (fun _ h => h) rfl (cb_of hC 3 q_c_yX3_place q_i_X3 q_m_X0_90 rfl rfl dd_yX3_place ⟨Nat.le_of_ble_eq_true rfl, Nat.le_of_ble_eq_true rfl⟩) q_i_yX3_place q_x_yX3_place (s_recv hK (hJ.1 σ) (by decide) o_Pages rfl) rfl (Nat.le_of_ble_eq_true rfl) dX0_layHeadAgain_147 ⟨Nat.zero_le _, Nat.zero_le _⟩ (fun r8 σ9 hr8 hσ9 => ?_)
        exact s_iret hC hr dX0_layHeadAgain_150 (fun H hH => ⟨rfl, hr8, hσ9, hH⟩)
      · refine s_aload_n hC dX0_layHeadAgain_104 rfl 0 rfl ?_
        refine s_get (b := b) hC hK (hJ.1 σ) (by decide) o_Book rfl q_w_X0 3 (by decide) q_f_X0_24 rfl dX0_layHeadAgain_105 ?_
        refine s_aload_n hC dX0_layHeadAgain_108 rfl 1 rfl ?_
        refine s_get (b := b) hC hK (hJ.1 σ) (by omega) (o_Row (q := k1)) rfl q_w_X7 2 (by decide) q_f_X0_94 rfl dX0_layHeadAgain_109 ?_
        refine s_callV_U (As := [vI (σ (8 + 3 * k1) 2)]) (rest := []) (a := b + 1) hC hKA 1 (m_X3_vacate hJ hσ (hσ (8 + 3 * k1) 2)) (fun _ h => h) rfl (cb_of hC 1 q_c_yX3_vacate q_i_X3 q_m_X0_106 rfl rfl dd_yX3_vacate ⟨Nat.le_of_ble_eq_true rfl, Nat.le_of_ble_eq_true rfl⟩) q_i_yX3_vacate q_x_yX3_vacate (s_recv hK (hJ.1 σ) (by decide) o_Pages rfl) rfl (Nat.le_of_ble_eq_true rfl) dX0_layHeadAgain_112 ⟨Nat.zero_le _, Nat.zero_le _⟩ (fun σ10 hσ10 => ?_)
        refine s_aload_n hC dX0_layHeadAgain_115 rfl 0 rfl ?_
        refine s_get (b := b) hC hK (hJ.1 σ10) (by decide) o_Book rfl q_w_X0 3 (by decide) q_f_X0_24 rfl dX0_layHeadAgain_116 ?_
        refine s_aload_n hC dX0_layHeadAgain_119 rfl 1 rfl ?_
        refine s_get (b := b) hC hK (hJ.1 σ10) (by omega) (o_Row (q := k1)) rfl q_w_X7 2 (by decide) q_f_X0_94 rfl dX0_layHeadAgain_120 ?_
        refine s_iconst hC dX0_layHeadAgain_123 ?_
        refine s_aload_n hC dX0_layHeadAgain_124 rfl 1 rfl ?_
        refine s_get (b := b) hC hK (hJ.1 σ10) (by omega) (o_Row (q := k1)) rfl q_w_X7 0 (by decide) q_f_X0_79 rfl dX0_layHeadAgain_125 ?_
        refine s_iload_n hC dX0_layHeadAgain_128 rfl 2 rfl ?_
        refine s_callV_U (As := [vI (σ10 (8 + 3 * k1) 2), vI 1, vI (σ10 (8 + 3 * k1) 0), vI r1]) (rest := []) (a := b + 1) hC hKA 4 (m_X3_occupy hJ hσ10 (hσ10 (8 + 3 * k1) 2) (inR_c _ rfl) (hσ10 (8 + 3 * k1) 0) hr1) (fun _ h => h) rfl (cb_of hC 4 q_c_yX3_occupy q_i_X3 q_m_X0_117 rfl rfl dd_yX3_occupy ⟨Nat.le_of_ble_eq_true rfl, Nat.le_of_ble_eq_true rfl⟩) q_i_yX3_occupy q_x_yX3_occupy (s_recv hK (hJ.1 σ10) (by decide) o_Pages rfl) rfl (Nat.le_of_ble_eq_true rfl) dX0_layHeadAgain_129 ⟨Nat.zero_le _, Nat.zero_le _⟩ (fun σ11 hσ11 => ?_)
        refine s_aload_n hC dX0_layHeadAgain_132 rfl 1 rfl ?_
        refine s_get (b := b) hC hK (hJ.1 σ11) (by omega) (o_Row (q := k1)) rfl q_w_X7 2 (by decide) q_f_X0_94 rfl dX0_layHeadAgain_133 ?_
        exact s_iret hC hr dX0_layHeadAgain_136 (fun H hH => ⟨rfl, (hσ11 (8 + 3 * k1) 2), hσ11, hH⟩)
    · refine s_aload_n hC dX0_layHeadAgain_53 rfl 0 rfl ?_
      refine s_get (b := b) hC hK (hJ.1 σ) (by decide) o_Book rfl q_w_X0 3 (by decide) q_f_X0_24 rfl dX0_layHeadAgain_54 ?_
      refine s_aload_n hC dX0_layHeadAgain_57 rfl 1 rfl ?_
      refine s_get (b := b) hC hK (hJ.1 σ) (by omega) (o_Row (q := k1)) rfl q_w_X7 2 (by decide) q_f_X0_94 rfl dX0_layHeadAgain_58 ?_
      refine s_iconst hC dX0_layHeadAgain_61 ?_
      refine s_aload_n hC dX0_layHeadAgain_62 rfl 1 rfl ?_
      refine s_get (b := b) hC hK (hJ.1 σ) (by omega) (o_Row (q := k1)) rfl q_w_X7 0 (by decide) q_f_X0_79 rfl dX0_layHeadAgain_63 ?_
      refine s_iconst hC dX0_layHeadAgain_66 ?_
      refine s_callV_U (As := [vI (σ (8 + 3 * k1) 2), vI 3, vI (σ (8 + 3 * k1) 0), vI 1]) (rest := []) (a := b + 1) hC hKA 4 (m_X3_occupy hJ hσ (hσ (8 + 3 * k1) 2) (inR_c _ rfl) (hσ (8 + 3 * k1) 0) (inR_c _ rfl)) (fun _ h => h) rfl (cb_of hC 4 q_c_yX3_occupy q_i_X3 q_m_X0_117 rfl rfl dd_yX3_occupy ⟨Nat.le_of_ble_eq_true rfl, Nat.le_of_ble_eq_true rfl⟩) q_i_yX3_occupy q_x_yX3_occupy (s_recv hK (hJ.1 σ) (by decide) o_Pages rfl) rfl (Nat.le_of_ble_eq_true rfl) dX0_layHeadAgain_67 ⟨Nat.zero_le _, Nat.zero_le _⟩ (fun σ12 hσ12 => ?_)
      refine s_aload_n hC dX0_layHeadAgain_70 rfl 0 rfl ?_
      refine s_get (b := b) hC hK (hJ.1 σ12) (by decide) o_Book rfl q_w_X0 3 (by decide) q_f_X0_24 rfl dX0_layHeadAgain_71 ?_
      refine s_iconst hC dX0_layHeadAgain_74 ?_
      refine s_aload_n hC dX0_layHeadAgain_75 rfl 1 rfl ?_
      refine s_get (b := b) hC hK (hJ.1 σ12) (by omega) (o_Row (q := k1)) rfl q_w_X7 0 (by decide) q_f_X0_79 rfl dX0_layHeadAgain_76 ?_
      refine s_iload_n hC dX0_layHeadAgain_79 rfl 2 rfl ?_
      refine s_callV_W (As := [vI 1, vI (σ12 (8 + 3 * k1) 0), vI r1]) (rest := []) (a := b + 1) hC hKA 3 (m_X3_place hJ hσ12 (inR_c _ rfl) (hσ12 (8 + 3 * k1) 0) hr1) (fun _ h => h) rfl (cb_of hC 3 q_c_yX3_place q_i_X3 q_m_X0_90 rfl rfl dd_yX3_place ⟨Nat.le_of_ble_eq_true rfl, Nat.le_of_ble_eq_true rfl⟩) q_i_yX3_place q_x_yX3_place (s_recv hK (hJ.1 σ12) (by decide) o_Pages rfl) rfl (Nat.le_of_ble_eq_true rfl) dX0_layHeadAgain_80 ⟨Nat.zero_le _, Nat.zero_le _⟩ (fun r13 σ14 hr13 hσ14 => ?_)
      exact s_iret hC hr dX0_layHeadAgain_83 (fun H hH => ⟨rfl, hr13, hσ14, hH⟩)
  · refine s_sub (L' := [(0, .ref (b + 0)), (1, .ref (b + (8 + 3 * k1))), (2, vI r1)]) [1, 2, 0] rfl ?_
    refine s_aload_n hC dX0_layHeadAgain_24 rfl 0 rfl ?_
    refine s_get (b := b) hC hK (hJ.1 σ) (by decide) o_Book rfl q_w_X0 3 (by decide) q_f_X0_24 rfl dX0_layHeadAgain_25 ?_
    refine s_aload_n hC dX0_layHeadAgain_28 rfl 1 rfl ?_
    refine s_get (b := b) hC hK (hJ.1 σ) (by omega) (o_Row (q := k1)) rfl q_w_X7 3 (by decide) q_f_X0_97 rfl dX0_layHeadAgain_29 ?_
    refine s_iconst hC dX0_layHeadAgain_32 ?_
    refine s_aload_n hC dX0_layHeadAgain_33 rfl 1 rfl ?_
    refine s_get (b := b) hC hK (hJ.1 σ) (by omega) (o_Row (q := k1)) rfl q_w_X7 0 (by decide) q_f_X0_79 rfl dX0_layHeadAgain_34 ?_
    refine s_iload_n hC dX0_layHeadAgain_37 rfl 2 rfl ?_
    refine s_callV_U (As := [vI (σ (8 + 3 * k1) 3), vI 1, vI (σ (8 + 3 * k1) 0), vI r1]) (rest := []) (a := b + 1) hC hKA 4 (m_X3_occupy hJ hσ (hσ (8 + 3 * k1) 3) (inR_c _ rfl) (hσ (8 + 3 * k1) 0) hr1) (fun _ h => h) rfl (cb_of hC 4 q_c_yX3_occupy q_i_X3 q_m_X0_117 rfl rfl dd_yX3_occupy ⟨Nat.le_of_ble_eq_true rfl, Nat.le_of_ble_eq_true rfl⟩) q_i_yX3_occupy q_x_yX3_occupy (s_recv hK (hJ.1 σ) (by decide) o_Pages rfl) rfl (Nat.le_of_ble_eq_true rfl) dX0_layHeadAgain_38 ⟨Nat.zero_le _, Nat.zero_le _⟩ (fun σ15 hσ15 => ?_)
    refine s_aload_n hC dX0_layHeadAgain_41 rfl 1 rfl ?_
    refine s_get (b := b) hC hK (hJ.1 σ15) (by omega) (o_Row (q := k1)) rfl q_w_X7 3 (by decide) q_f_X0_97 rfl dX0_layHeadAgain_42 ?_
    exact s_iret hC hr dX0_layHeadAgain_45 (fun H hH => ⟨rfl, (hσ15 (8 + 3 * k1) 3), hσ15, hH⟩)
set_option maxHeartbeats 4000000 in
set_option maxRecDepth 100000 in
theorem m_X0_layPieces {l : Launch} {G : Gt} {b : Nat} {σ : Blk} {J : Blk → Heap → Prop} (hJ : Wd G (layBook G b) 98 b J) (hσ : Rg σ) {k1 : Nat} (hk1 : k1 < 30) : MetS l yX0_layPieces cX0_layPieces 6 (some .boolean) { frames := 3, cells := 0, slots := 0, locals := 69 } G [.ref (b + 0), .ref (b + (8 + 3 * k1))] (J σ) (poW J) (Ab b 98) 0 0 (g_X0_layPieces σ k1) := by
  refine met_of (by decide) (Nat.le_of_ble_eq_true rfl) ?_
  intro p e s m below meth c hC hKA hr _
  have hK := hKA.1
  unfold g_X0_layPieces
  refine s_sub (L' := [(0, .ref (b + 0)), (1, .ref (b + (8 + 3 * k1)))]) [0, 1] rfl ?_
  refine s_aload_n hC dX0_layPieces_0 rfl 1 rfl ?_
  refine s_get (b := b) hC hK (hJ.1 σ) (by omega) (o_Row (q := k1)) rfl q_w_X7 1 (by decide) q_f_X0_66 rfl dX0_layPieces_1 ?_
  refine s_aload_n hC dX0_layPieces_4 rfl 0 rfl ?_
  refine s_aload_n hC dX0_layPieces_5 rfl 1 rfl ?_
  refine s_callV_P (As := [.ref (b + (8 + 3 * k1))]) (rest := [vI (σ (8 + 3 * k1) 1)]) (a := b + 0) hC hKA 1 (m_X0_headLetters (hJ.1 σ) hσ hk1) rfl (cb_of hC 1 q_c_yX0_headLetters q_i_X0 q_m_X0_125 rfl rfl dd_yX0_headLetters ⟨Nat.le_of_ble_eq_true rfl, Nat.le_of_ble_eq_true rfl⟩) q_i_yX0_headLetters q_x_yX0_headLetters (s_recv hK (hJ.1 σ) (by decide) o_Book rfl) rfl (Nat.le_of_ble_eq_true rfl) dX0_layPieces_6 ⟨Nat.zero_le _, Nat.zero_le _⟩ (fun r1 hr1 => ?_)
  refine s_isub hC dX0_layPieces_9 ?_
  refine s_ck0 (fun v2 hv2 => ?_)
  refine s_istore_n (L' := [(2, vI v2), (0, .ref (b + 0)), (1, .ref (b + (8 + 3 * k1)))]) hC dX0_layPieces_10 rfl (by decide) rfl ?_
  refine s_aload_n hC dX0_layPieces_11 rfl 2 rfl ?_
  refine s_iconst hC dX0_layPieces_12 ?_
  refine s_putP (ty := .int) hC hK hJ (fun _ h => h) hσ (inR_c _ rfl) (by omega) (o_Row (q := k1)) rfl q_w_X7 tyX7_ok nmX7 4 (by decide) q_f_X0_128 rfl (by decide +kernel) rfl rfl (fun _ => Nat.le_of_ble_eq_true rfl) u_Row_4 dX0_layPieces_13 (fun σ3 hσ3 => ?_)
  refine s_iconst hC dX0_layPieces_16 ?_
  refine s_istore_n (L' := [(3, vI 0), (2, vI v2), (0, .ref (b + 0)), (1, .ref (b + (8 + 3 * k1)))]) hC dX0_layPieces_17 rfl (by decide) rfl ?_
  refine s_sub (L' := [(0, .ref (b + 0)), (1, .ref (b + (8 + 3 * k1))), (2, vI v2), (3, vI 0)]) [2, 3, 1, 0] rfl ?_
  refine s_lp_IIB (J := J) (F := g_X0_layPieces_L18 k1) 18 (fun x4 x5 => [(0, .ref (b + 0)), (1, .ref (b + (8 + 3 * k1))), (2, vI x4), (3, vI x5)]) (fun _ _ _ => rfl) (fun n ih18 x4 x5 σ6 hx4 hx5 hσ6 => ?_) fu v2 0 σ3 hv2 (inR_c _ rfl) hσ3
  rw [g_X0_layPieces_L18]
  refine s_iload_n hC dX0_layPieces_18 rfl 3 rfl ?_
  refine s_bipush hC dX0_layPieces_19 (by decide) ?_
  refine s_icmp_ge (tgt := 95) hC dX0_layPieces_21 (by decide) hx5 (inR_c _ rfl) ?_ ?_
  · refine s_sub (L' := []) [] rfl ?_
    refine s_iconst hC dX0_layPieces_95 ?_
    exact s_zret hC hr (Or.inr rfl) dX0_layPieces_96 (fun H hH => ⟨rfl, (inR_c _ rfl), hσ6, hH⟩)
  · refine s_iload_n hC dX0_layPieces_24 rfl 2 rfl ?_
    refine s_if_le (tgt := 95) hC dX0_layPieces_25 (by decide) hx4 ?_ ?_
    · refine s_sub (L' := []) [] rfl ?_
      refine s_iconst hC dX0_layPieces_95 ?_
      exact s_zret hC hr (Or.inr rfl) dX0_layPieces_96 (fun H hH => ⟨rfl, (inR_c _ rfl), hσ6, hH⟩)
    · refine s_iload_n hC dX0_layPieces_28 rfl 2 rfl ?_
      refine s_aload_n hC dX0_layPieces_29 rfl 0 rfl ?_
      refine s_get (b := b) hC hK (hJ.1 σ6) (by decide) o_Book rfl q_w_X0 1 (by decide) q_f_X0_15 rfl dX0_layPieces_30 ?_
      refine s_mmin hC hx4 (hσ6 0 1) q_m_X0_131 q_s_Lib_Math_min_name q_i_J9 q_c_yJ9_min_7cf53 (Nat.le_of_ble_eq_true rfl) (Nat.le_of_ble_eq_true rfl) ⟨Nat.zero_le _, Nat.zero_le _⟩ dX0_layPieces_33 ?_
      refine s_nm ((imin_in hx4 (hσ6 0 1))) (fun v7 hv7 => ?_)
      refine s_istore (L' := [(4, vI v7), (0, .ref (b + 0)), (1, .ref (b + (8 + 3 * k1))), (2, vI x4), (3, vI x5)]) hC dX0_layPieces_36 (by decide) rfl ?_
      refine s_aload_n hC dX0_layPieces_38 rfl 1 rfl ?_
      refine s_get (b := b) hC hK (hJ.1 σ6) (by decide) o_Book rfl q_w_X0 3 (by decide) q_f_X0_24 rfl dX0_layPieces_39 ?_
      refine s_iconst hC dX0_layPieces_42 ?_
      refine s_aload_n hC dX0_layPieces_43 rfl 2 rfl ?_
      refine s_get (b := b) hC hK (hJ.1 σ6) (by omega) (o_Row (q := k1)) rfl q_w_X7 0 (by decide) q_f_X0_79 rfl dX0_layPieces_44 ?_
      refine s_iconst hC dX0_layPieces_47 ?_
      refine s_iload hC dX0_layPieces_48 0 rfl ?_
      refine s_iadd hC dX0_layPieces_50 ?_
      refine s_ck0 (fun v8 hv8 => ?_)
      refine s_callV_W (As := [vI 2, vI (σ6 (8 + 3 * k1) 0), vI v8]) (rest := []) (a := b + 1) hC hKA 3 (m_X3_place hJ hσ6 (inR_c _ rfl) (hσ6 (8 + 3 * k1) 0) hv8) (fun _ h => h) rfl (cb_of hC 3 q_c_yX3_place q_i_X3 q_m_X0_90 rfl rfl dd_yX3_place ⟨Nat.le_of_ble_eq_true rfl, Nat.le_of_ble_eq_true rfl⟩) q_i_yX3_place q_x_yX3_place (s_recv hK (hJ.1 σ6) (by decide) o_Pages rfl) rfl (Nat.le_of_ble_eq_true rfl) dX0_layPieces_51 ⟨Nat.zero_le _, Nat.zero_le _⟩ (fun r9 σ10 hr9 hσ10 => ?_)
      refine s_istore (L' := [(5, vI r9), (4, vI v7), (0, .ref (b + 0)), (1, .ref (b + (8 + 3 * k1))), (2, vI x4), (3, vI x5)]) hC dX0_layPieces_54 (by decide) rfl ?_
      refine s_iload hC dX0_layPieces_56 0 rfl ?_
      refine s_iconst hC dX0_layPieces_58 ?_
      refine s_icmp_ne (tgt := 64) hC dX0_layPieces_59 (by decide) hr9 (inR_c _ rfl) ?_ ?_
      · refine s_sub (L' := [(0, .ref (b + 0)), (1, .ref (b + (8 + 3 * k1))), (2, vI x4), (3, vI x5), (4, vI v7), (5, vI r9)]) [2, 3, 4, 5, 1, 0] rfl ?_
        refine s_aload_n hC dX0_layPieces_64 rfl 1 rfl ?_
        refine s_get (b := b) hC hK (hJ.1 σ10) (by omega) (o_Row (q := k1)) rfl q_w_X7 5 (by decide) q_f_X0_137 rfl dX0_layPieces_65 ?_
        refine s_iload_n hC dX0_layPieces_68 rfl 3 rfl ?_
        refine s_iload hC dX0_layPieces_69 5 rfl ?_
        refine s_callSN_U (As := [.ref (b + (9 + 3 * k1)), vI x5, vI r9]) (rest := []) hC hKA 3 (m_X4_store hJ hσ10 (by omega) (a_Spots (q := k1)) hx5 hr9) (fun _ h => h) rfl (cn_of hC hKA 3 q_c_yX4_store q_i_X4 nwm_X0_82 rfl rfl dd_yX4_store ⟨Nat.le_of_ble_eq_true rfl, Nat.le_of_ble_eq_true rfl⟩) q_s_yX4_store rfl (Nat.le_of_ble_eq_true rfl) dX0_layPieces_71 ⟨Nat.zero_le _, Nat.zero_le _⟩ (fun σ11 hσ11 => ?_)
        refine s_aload_n hC dX0_layPieces_74 rfl 1 rfl ?_
        refine s_dup hC dX0_layPieces_75 rfl ?_
        refine s_get (b := b) hC hK (hJ.1 σ11) (by omega) (o_Row (q := k1)) rfl q_w_X7 4 (by decide) q_f_X0_128 rfl dX0_layPieces_76 ?_
        refine s_iconst hC dX0_layPieces_79 ?_
        refine s_iadd hC dX0_layPieces_80 ?_
        refine s_ck0 (fun v12 hv12 => ?_)
        refine s_putP (ty := .int) hC hK hJ (fun _ h => h) hσ11 hv12 (by omega) (o_Row (q := k1)) rfl q_w_X7 tyX7_ok nmX7 4 (by decide) q_f_X0_128 rfl (by decide +kernel) rfl rfl (fun _ => Nat.le_of_ble_eq_true rfl) u_Row_4 dX0_layPieces_81 (fun σ13 hσ13 => ?_)
        refine s_iload_n hC dX0_layPieces_84 rfl 2 rfl ?_
        refine s_iload hC dX0_layPieces_85 4 rfl ?_
        refine s_isub hC dX0_layPieces_87 ?_
        refine s_ck0 (fun v14 hv14 => ?_)
        refine s_istore_n (L' := [(2, vI v14), (0, .ref (b + 0)), (1, .ref (b + (8 + 3 * k1))), (3, vI x5), (4, vI v7), (5, vI r9)]) hC dX0_layPieces_88 rfl (by decide) rfl ?_
        refine s_iincK hC dX0_layPieces_89 3 rfl (by decide) (fun v15 => [(3, vI v15), (2, vI v14), (0, .ref (b + 0)), (1, .ref (b + (8 + 3 * k1))), (4, vI v7), (5, vI r9)]) (fun _ => rfl) (fun v15 hv15 => ?_)
        refine s_goto (tgt := 18) hC dX0_layPieces_92 (by decide) ?_
        refine s_sub (L' := [(0, .ref (b + 0)), (1, .ref (b + (8 + 3 * k1))), (2, vI v14), (3, vI v15)]) [2, 3, 1, 0] rfl ?_
        exact ih18 v14 v15 σ13 hv14 hv15 hσ13
      · refine s_sub (L' := []) [] rfl ?_
        refine s_iconst hC dX0_layPieces_62 ?_
        exact s_zret hC hr (Or.inl rfl) dX0_layPieces_63 (fun H hH => ⟨rfl, (inR_c _ rfl), hσ10, hH⟩)
set_option maxHeartbeats 4000000 in
set_option maxRecDepth 100000 in
theorem m_X0_layAgain {l : Launch} {G : Gt} {b : Nat} {σ : Blk} {J : Blk → Heap → Prop} (hJ : Wd G (layBook G b) 98 b J) (hσ : Rg σ) {k1 : Nat} (hk1 : k1 < 30) : MetS l yX0_layAgain cX0_layAgain 2 (some .boolean) { frames := 4, cells := 0, slots := 0, locals := 94 } G [.ref (b + 0), .ref (b + (8 + 3 * k1))] (J σ) (poW J) (Ab b 98) 0 0 (g_X0_layAgain σ k1) := by
  refine met_of (by decide) (Nat.le_of_ble_eq_true rfl) ?_
  intro p e s m below meth c hC hKA hr _
  have hK := hKA.1
  unfold g_X0_layAgain
  refine s_sub (L' := [(0, .ref (b + 0)), (1, .ref (b + (8 + 3 * k1)))]) [0, 1] rfl ?_
  refine s_aload_n hC dX0_layAgain_0 rfl 0 rfl ?_
  refine s_aload_n hC dX0_layAgain_1 rfl 1 rfl ?_
  refine s_callV_U (As := [.ref (b + (8 + 3 * k1))]) (rest := []) (a := b + 0) hC hKA 1 (m_X0_liftPieces hJ hσ hk1) (fun _ h => h) rfl (cb_of hC 1 q_c_yX0_liftPieces q_i_X0 q_m_X0_103 rfl rfl dd_yX0_liftPieces ⟨Nat.le_of_ble_eq_true rfl, Nat.le_of_ble_eq_true rfl⟩) q_i_yX0_liftPieces q_x_yX0_liftPieces (s_recv hK (hJ.1 σ) (by decide) o_Book rfl) rfl (Nat.le_of_ble_eq_true rfl) dX0_layAgain_2 ⟨Nat.zero_le _, Nat.zero_le _⟩ (fun σ1 hσ1 => ?_)
  refine s_aload_n hC dX0_layAgain_5 rfl 0 rfl ?_
  refine s_get (b := b) hC hK (hJ.1 σ1) (by decide) o_Book rfl q_w_X0 3 (by decide) q_f_X0_24 rfl dX0_layAgain_6 ?_
  refine s_aload_n hC dX0_layAgain_9 rfl 1 rfl ?_
  refine s_get (b := b) hC hK (hJ.1 σ1) (by omega) (o_Row (q := k1)) rfl q_w_X7 3 (by decide) q_f_X0_97 rfl dX0_layAgain_10 ?_
  refine s_callV_U (As := [vI (σ1 (8 + 3 * k1) 3)]) (rest := []) (a := b + 1) hC hKA 1 (m_X3_vacate hJ hσ1 (hσ1 (8 + 3 * k1) 3)) (fun _ h => h) rfl (cb_of hC 1 q_c_yX3_vacate q_i_X3 q_m_X0_106 rfl rfl dd_yX3_vacate ⟨Nat.le_of_ble_eq_true rfl, Nat.le_of_ble_eq_true rfl⟩) q_i_yX3_vacate q_x_yX3_vacate (s_recv hK (hJ.1 σ1) (by decide) o_Pages rfl) rfl (Nat.le_of_ble_eq_true rfl) dX0_layAgain_13 ⟨Nat.zero_le _, Nat.zero_le _⟩ (fun σ2 hσ2 => ?_)
  refine s_aload_n hC dX0_layAgain_16 rfl 1 rfl ?_
  refine s_aload_n hC dX0_layAgain_17 rfl 0 rfl ?_
  refine s_aload_n hC dX0_layAgain_18 rfl 1 rfl ?_
  refine s_callV_W (As := [.ref (b + (8 + 3 * k1))]) (rest := [.ref (b + (8 + 3 * k1))]) (a := b + 0) hC hKA 1 (m_X0_layHeadAgain hJ hσ2 hk1) (fun _ h => h) rfl (cb_of hC 1 q_c_yX0_layHeadAgain q_i_X0 q_m_X0_110 rfl rfl dd_yX0_layHeadAgain ⟨Nat.le_of_ble_eq_true rfl, Nat.le_of_ble_eq_true rfl⟩) q_i_yX0_layHeadAgain q_x_yX0_layHeadAgain (s_recv hK (hJ.1 σ2) (by decide) o_Book rfl) rfl (Nat.le_of_ble_eq_true rfl) dX0_layAgain_19 ⟨Nat.zero_le _, Nat.zero_le _⟩ (fun r3 σ4 hr3 hσ4 => ?_)
  refine s_putP (ty := .int) hC hK hJ (fun _ h => h) hσ4 hr3 (by omega) (o_Row (q := k1)) rfl q_w_X7 tyX7_ok nmX7 3 (by decide) q_f_X0_97 rfl (by decide +kernel) rfl rfl (fun _ => Nat.le_of_ble_eq_true rfl) u_Row_3 dX0_layAgain_22 (fun σ5 hσ5 => ?_)
  refine s_aload_n hC dX0_layAgain_25 rfl 1 rfl ?_
  refine s_get (b := b) hC hK (hJ.1 σ5) (by omega) (o_Row (q := k1)) rfl q_w_X7 3 (by decide) q_f_X0_97 rfl dX0_layAgain_26 ?_
  refine s_iconst hC dX0_layAgain_29 ?_
  refine s_icmp_eq (tgt := 45) hC dX0_layAgain_30 (by decide) (hσ5 (8 + 3 * k1) 3) (inR_c _ rfl) ?_ ?_
  · refine s_sub (L' := []) [] rfl ?_
    refine s_iconst hC dX0_layAgain_45 ?_
    exact s_zret hC hr (Or.inl rfl) dX0_layAgain_46 (fun H hH => ⟨rfl, (inR_c _ rfl), hσ5, hH⟩)
  · refine s_aload_n hC dX0_layAgain_33 rfl 0 rfl ?_
    refine s_aload_n hC dX0_layAgain_34 rfl 1 rfl ?_
    refine s_callV_W (As := [.ref (b + (8 + 3 * k1))]) (rest := []) (a := b + 0) hC hKA 1 (m_X0_layPieces hJ hσ5 hk1) (fun _ h => h) rfl (cb_of hC 1 q_c_yX0_layPieces q_i_X0 q_m_X0_100 rfl rfl dd_yX0_layPieces ⟨Nat.le_of_ble_eq_true rfl, Nat.le_of_ble_eq_true rfl⟩) q_i_yX0_layPieces q_x_yX0_layPieces (s_recv hK (hJ.1 σ5) (by decide) o_Book rfl) rfl (Nat.le_of_ble_eq_true rfl) dX0_layAgain_35 ⟨Nat.zero_le _, Nat.zero_le _⟩ (fun r6 σ7 hr6 hσ7 => ?_)
    refine s_if_eq (tgt := 45) hC dX0_layAgain_38 (by decide) hr6 ?_ ?_
    · refine s_sub (L' := []) [] rfl ?_
      refine s_iconst hC dX0_layAgain_45 ?_
      exact s_zret hC hr (Or.inl rfl) dX0_layAgain_46 (fun H hH => ⟨rfl, (inR_c _ rfl), hσ7, hH⟩)
    · refine s_sub (L' := []) [] rfl ?_
      refine s_iconst hC dX0_layAgain_41 ?_
      refine s_goto (tgt := 46) hC dX0_layAgain_42 (by decide) ?_
      exact s_zret hC hr (Or.inr rfl) dX0_layAgain_46 (fun H hH => ⟨rfl, (inR_c _ rfl), hσ7, hH⟩)
set_option maxHeartbeats 4000000 in
set_option maxRecDepth 100000 in
theorem m_X0_addRow {l : Launch} {G : Gt} {b : Nat} {σ : Blk} {J : Blk → Heap → Prop} (hJ : Wd G (layBook G b) 98 b J) (hσ : Rg σ) {a1 : Int} (h1 : inR a1) : MetS l yX0_addRow cX0_addRow 4 (some (.object "OverflowRows$Row")) { frames := 1, cells := 0, slots := 0, locals := 22 } G [.ref (b + 0), vI a1] (J σ) (poV J b) (Ab b 98) 0 0 (g_X0_addRow σ a1) := by
  refine met_of (by decide) (Nat.le_of_ble_eq_true rfl) ?_
  intro p e s m below meth c hC hKA hr _
  have hK := hKA.1
  unfold g_X0_addRow
  refine s_sub (L' := [(0, .ref (b + 0)), (1, vI a1)]) [0, 1] rfl ?_
  refine s_iconst hC dX0_addRow_0 ?_
  refine s_istore_n (L' := [(2, vI 0), (0, .ref (b + 0)), (1, vI a1)]) hC dX0_addRow_1 rfl (by decide) rfl ?_
  refine s_sub (L' := [(0, .ref (b + 0)), (1, vI a1), (2, vI 0)]) [1, 2, 0] rfl ?_
  refine s_lp_I (F := g_X0_addRow_L2 σ a1) 2 (fun x1 => [(0, .ref (b + 0)), (1, vI a1), (2, vI x1)]) (fun _ => rfl) (fun n ih2 x1 hx1 => ?_) fu 0 (inR_c _ rfl)
  rw [g_X0_addRow_L2]
  refine s_iload_n hC dX0_addRow_2 rfl 2 rfl ?_
  refine s_bipush hC dX0_addRow_3 (by decide) ?_
  refine s_icmp_ge (tgt := 59) hC dX0_addRow_5 (by decide) hx1 (inR_c _ rfl) ?_ ?_
  · refine s_sub (L' := []) [] rfl ?_
    refine s_null hC dX0_addRow_59 ?_
    exact s_aret hC hr (-1) rfl dX0_addRow_60 (fun H hH => ⟨rfl, hσ, hH⟩)
  · refine s_aload_n hC dX0_addRow_8 rfl 0 rfl ?_
    refine s_get (b := b) hC hK (hJ.1 σ) (by decide) o_Book rfl q_w_X0 4 (by decide) q_f_X0_30 rfl dX0_addRow_9 ?_
    refine s_iload_n hC dX0_addRow_12 rfl 2 rfl ?_
    refine s_aaldW (b := b) hC hK (hJ.1 σ) (by decide) q_Book_6 dX0_addRow_13 (fun q2 hq2 => ?_)
    refine s_astore_n (L' := [(3, .ref (b + (8 + 3 * q2))), (0, .ref (b + 0)), (1, vI a1), (2, vI x1)]) hC dX0_addRow_14 rfl (by decide) rfl ?_
    refine s_aload_n hC dX0_addRow_15 rfl 0 rfl ?_
    refine s_jp_ 53 ([(0, .ref (b + 0)), (1, vI a1), (2, vI x1)]) ([]) ?_ (fun j3 hj3 => ?_)
    · refine s_iincK hC dX0_addRow_53 2 rfl (by decide) (fun v4 => [(2, vI v4), (0, .ref (b + 0)), (1, vI a1)]) (fun _ => rfl) (fun v4 hv4 => ?_)
      refine s_goto (tgt := 2) hC dX0_addRow_56 (by decide) ?_
      refine s_sub (L' := [(0, .ref (b + 0)), (1, vI a1), (2, vI v4)]) [1, 2, 0] rfl ?_
      exact ih2 v4 hv4
    · refine s_ifnullW hC dX0_addRow_16 ?_
      refine s_sub (L' := [(0, .ref (b + 0)), (1, vI a1), (2, vI x1), (3, .ref (b + (8 + 3 * q2)))]) [1, 2, 3, 0] rfl ?_
      refine s_aload_n hC dX0_addRow_19 rfl 3 rfl ?_
      refine s_get (b := b) hC hK (hJ.1 σ) (by omega) (o_Row (q := q2)) rfl q_w_X7 0 (by decide) q_f_X0_79 rfl dX0_addRow_20 ?_
      refine s_iconst hC dX0_addRow_23 ?_
      refine s_icmp_ne (tgt := 53) hC dX0_addRow_24 (by decide) (hσ (8 + 3 * q2) 0) (inR_c _ rfl) ?_ ?_
      · refine s_sub (L' := [(0, .ref (b + 0)), (1, vI a1), (2, vI x1)]) [0, 1, 2] rfl ?_
        exact hj3
      · refine s_aload_n hC dX0_addRow_27 rfl 3 rfl ?_
        refine s_iload_n hC dX0_addRow_28 rfl 1 rfl ?_
        refine s_putP (ty := .int) hC hK hJ (fun _ h => h) hσ h1 (by omega) (o_Row (q := q2)) rfl q_w_X7 tyX7_ok nmX7 0 (by decide) q_f_X0_79 rfl (by decide +kernel) rfl rfl (fun _ => Nat.le_of_ble_eq_true rfl) u_Row_0 dX0_addRow_29 (fun σ5 hσ5 => ?_)
        refine s_aload_n hC dX0_addRow_32 rfl 0 rfl ?_
        refine s_get (b := b) hC hK (hJ.1 σ5) (by decide) o_Book rfl q_w_X0 5 (by decide) q_f_X0_34 rfl dX0_addRow_33 ?_
        refine s_iload_n hC dX0_addRow_36 rfl 1 rfl ?_
        refine s_iload_n hC dX0_addRow_37 rfl 2 rfl ?_
        refine s_callSN_U (As := [.ref (b + 7), vI a1, vI x1]) (rest := []) hC hKA 3 (m_X4_store hJ hσ5 (by decide) a_Book_7 h1 hx1) (fun _ h => h) rfl (cn_of hC hKA 3 q_c_yX4_store q_i_X4 nwm_X0_82 rfl rfl dd_yX4_store ⟨Nat.le_of_ble_eq_true rfl, Nat.le_of_ble_eq_true rfl⟩) q_s_yX4_store rfl (Nat.le_of_ble_eq_true rfl) dX0_addRow_38 ⟨Nat.zero_le _, Nat.zero_le _⟩ (fun σ6 hσ6 => ?_)
        refine s_aload_n hC dX0_addRow_41 rfl 0 rfl ?_
        refine s_dup hC dX0_addRow_42 rfl ?_
        refine s_get (b := b) hC hK (hJ.1 σ6) (by decide) o_Book rfl q_w_X0 2 (by decide) q_f_X0_18 rfl dX0_addRow_43 ?_
        refine s_iconst hC dX0_addRow_46 ?_
        refine s_iadd hC dX0_addRow_47 ?_
        refine s_ck0 (fun v7 hv7 => ?_)
        refine s_putP (ty := .int) hC hK hJ (fun _ h => h) hσ6 hv7 (by decide) o_Book rfl q_w_X0 tyX0_ok nmX0 2 (by decide) q_f_X0_18 rfl (by decide +kernel) rfl rfl (fun _ => Nat.le_of_ble_eq_true rfl) u_Book_2 dX0_addRow_48 (fun σ8 hσ8 => ?_)
        refine s_aload_n hC dX0_addRow_51 rfl 3 rfl ?_
        exact s_aret hC hr (q2 : Int) rfl dX0_addRow_52 (fun H hH => ⟨rfl, hσ8, hH⟩)
set_option maxHeartbeats 4000000 in
set_option maxRecDepth 100000 in
theorem m_X0_layNew {l : Launch} {G : Gt} {b : Nat} {σ : Blk} {J : Blk → Heap → Prop} (hJ : Wd G (layBook G b) 98 b J) (hσ : Rg σ) {k1 : Nat} (hk1 : k1 < 30) : MetS l yX0_layNew cX0_layNew 2 (some .boolean) { frames := 4, cells := 0, slots := 0, locals := 94 } G [.ref (b + 0), .ref (b + (8 + 3 * k1))] (J σ) (poW J) (Ab b 98) 0 0 (g_X0_layNew σ k1) := by
  refine met_of (by decide) (Nat.le_of_ble_eq_true rfl) ?_
  intro p e s m below meth c hC hKA hr _
  have hK := hKA.1
  unfold g_X0_layNew
  refine s_sub (L' := [(0, .ref (b + 0)), (1, .ref (b + (8 + 3 * k1)))]) [0, 1] rfl ?_
  refine s_aload_n hC dX0_layNew_0 rfl 1 rfl ?_
  refine s_aload_n hC dX0_layNew_1 rfl 0 rfl ?_
  refine s_get (b := b) hC hK (hJ.1 σ) (by decide) o_Book rfl q_w_X0 3 (by decide) q_f_X0_24 rfl dX0_layNew_2 ?_
  refine s_iconst hC dX0_layNew_5 ?_
  refine s_aload_n hC dX0_layNew_6 rfl 1 rfl ?_
  refine s_get (b := b) hC hK (hJ.1 σ) (by omega) (o_Row (q := k1)) rfl q_w_X7 0 (by decide) q_f_X0_79 rfl dX0_layNew_7 ?_
  refine s_aload_n hC dX0_layNew_10 rfl 0 rfl ?_
  refine s_aload_n hC dX0_layNew_11 rfl 1 rfl ?_
  refine s_callV_P (As := [.ref (b + (8 + 3 * k1))]) (rest := [vI (σ (8 + 3 * k1) 0), vI 1, .ref (b + 1), .ref (b + (8 + 3 * k1))]) (a := b + 0) hC hKA 1 (m_X0_headCells (hJ.1 σ) hσ hk1) rfl (cb_of hC 1 q_c_yX0_headCells q_i_X0 q_m_X0_86 rfl rfl dd_yX0_headCells ⟨Nat.le_of_ble_eq_true rfl, Nat.le_of_ble_eq_true rfl⟩) q_i_yX0_headCells q_x_yX0_headCells (s_recv hK (hJ.1 σ) (by decide) o_Book rfl) rfl (Nat.le_of_ble_eq_true rfl) dX0_layNew_12 ⟨Nat.zero_le _, Nat.zero_le _⟩ (fun r1 hr1 => ?_)
  refine s_callV_W (As := [vI 1, vI (σ (8 + 3 * k1) 0), vI r1]) (rest := [.ref (b + (8 + 3 * k1))]) (a := b + 1) hC hKA 3 (m_X3_place hJ hσ (inR_c _ rfl) (hσ (8 + 3 * k1) 0) hr1) (fun _ h => h) rfl (cb_of hC 3 q_c_yX3_place q_i_X3 q_m_X0_90 rfl rfl dd_yX3_place ⟨Nat.le_of_ble_eq_true rfl, Nat.le_of_ble_eq_true rfl⟩) q_i_yX3_place q_x_yX3_place (s_recv hK (hJ.1 σ) (by decide) o_Pages rfl) rfl (Nat.le_of_ble_eq_true rfl) dX0_layNew_15 ⟨Nat.zero_le _, Nat.zero_le _⟩ (fun r2 σ3 hr2 hσ3 => ?_)
  refine s_putP (ty := .int) hC hK hJ (fun _ h => h) hσ3 hr2 (by omega) (o_Row (q := k1)) rfl q_w_X7 tyX7_ok nmX7 2 (by decide) q_f_X0_94 rfl (by decide +kernel) rfl rfl (fun _ => Nat.le_of_ble_eq_true rfl) u_Row_2 dX0_layNew_18 (fun σ4 hσ4 => ?_)
  refine s_aload_n hC dX0_layNew_21 rfl 1 rfl ?_
  refine s_aload_n hC dX0_layNew_22 rfl 1 rfl ?_
  refine s_get (b := b) hC hK (hJ.1 σ4) (by omega) (o_Row (q := k1)) rfl q_w_X7 2 (by decide) q_f_X0_94 rfl dX0_layNew_23 ?_
  refine s_putP (ty := .int) hC hK hJ (fun _ h => h) hσ4 (hσ4 (8 + 3 * k1) 2) (by omega) (o_Row (q := k1)) rfl q_w_X7 tyX7_ok nmX7 3 (by decide) q_f_X0_97 rfl (by decide +kernel) rfl rfl (fun _ => Nat.le_of_ble_eq_true rfl) u_Row_3 dX0_layNew_26 (fun σ5 hσ5 => ?_)
  refine s_aload_n hC dX0_layNew_29 rfl 1 rfl ?_
  refine s_get (b := b) hC hK (hJ.1 σ5) (by omega) (o_Row (q := k1)) rfl q_w_X7 3 (by decide) q_f_X0_97 rfl dX0_layNew_30 ?_
  refine s_iconst hC dX0_layNew_33 ?_
  refine s_icmp_eq (tgt := 49) hC dX0_layNew_34 (by decide) (hσ5 (8 + 3 * k1) 3) (inR_c _ rfl) ?_ ?_
  · refine s_sub (L' := []) [] rfl ?_
    refine s_iconst hC dX0_layNew_49 ?_
    exact s_zret hC hr (Or.inl rfl) dX0_layNew_50 (fun H hH => ⟨rfl, (inR_c _ rfl), hσ5, hH⟩)
  · refine s_aload_n hC dX0_layNew_37 rfl 0 rfl ?_
    refine s_aload_n hC dX0_layNew_38 rfl 1 rfl ?_
    refine s_callV_W (As := [.ref (b + (8 + 3 * k1))]) (rest := []) (a := b + 0) hC hKA 1 (m_X0_layPieces hJ hσ5 hk1) (fun _ h => h) rfl (cb_of hC 1 q_c_yX0_layPieces q_i_X0 q_m_X0_100 rfl rfl dd_yX0_layPieces ⟨Nat.le_of_ble_eq_true rfl, Nat.le_of_ble_eq_true rfl⟩) q_i_yX0_layPieces q_x_yX0_layPieces (s_recv hK (hJ.1 σ5) (by decide) o_Book rfl) rfl (Nat.le_of_ble_eq_true rfl) dX0_layNew_39 ⟨Nat.zero_le _, Nat.zero_le _⟩ (fun r6 σ7 hr6 hσ7 => ?_)
    refine s_if_eq (tgt := 49) hC dX0_layNew_42 (by decide) hr6 ?_ ?_
    · refine s_sub (L' := []) [] rfl ?_
      refine s_iconst hC dX0_layNew_49 ?_
      exact s_zret hC hr (Or.inl rfl) dX0_layNew_50 (fun H hH => ⟨rfl, (inR_c _ rfl), hσ7, hH⟩)
    · refine s_sub (L' := []) [] rfl ?_
      refine s_iconst hC dX0_layNew_45 ?_
      refine s_goto (tgt := 50) hC dX0_layNew_46 (by decide) ?_
      exact s_zret hC hr (Or.inr rfl) dX0_layNew_50 (fun H hH => ⟨rfl, (inR_c _ rfl), hσ7, hH⟩)
set_option maxHeartbeats 4000000 in
set_option maxRecDepth 100000 in
theorem m_X0_layRow {l : Launch} {G : Gt} {b : Nat} {σ : Blk} {J : Blk → Heap → Prop} (hJ : Wd G (layBook G b) 98 b J) (hσ : Rg σ) {a1 : Int} (h1 : inR a1) {a2 : Int} (h2 : inR a2) : MetS l yX0_layRow cX0_layRow 5 (some (.object "OverflowRows$Row")) { frames := 5, cells := 0, slots := 0, locals := 115 } G [.ref (b + 0), vI a1, vI a2] (J σ) (poV J b) (Ab b 98) 0 0 (g_X0_layRow σ a1 a2) := by
  refine met_of (by decide) (Nat.le_of_ble_eq_true rfl) ?_
  intro p e s m below meth c hC hKA hr _
  have hK := hKA.1
  unfold g_X0_layRow
  refine s_sub (L' := [(0, .ref (b + 0)), (1, vI a1), (2, vI a2)]) [0, 1, 2] rfl ?_
  refine s_aload_n hC dX0_layRow_0 rfl 0 rfl ?_
  refine s_iload_n hC dX0_layRow_1 rfl 1 rfl ?_
  refine s_callV_R (As := [vI a1]) (rest := []) (a := b + 0) hC hKA 1 (m_X0_rowOf (hJ.1 σ) hσ h1) rfl (cb_of hC 1 q_c_yX0_rowOf q_i_X0 q_m_X0_62 rfl rfl dd_yX0_rowOf ⟨Nat.le_of_ble_eq_true rfl, Nat.le_of_ble_eq_true rfl⟩) q_i_yX0_rowOf q_x_yX0_rowOf (s_recv hK (hJ.1 σ) (by decide) o_Book rfl) rfl (Nat.le_of_ble_eq_true rfl) dX0_layRow_2 ⟨Nat.zero_le _, Nat.zero_le _⟩ (fun r1 => ?_)
  refine s_astore_nR hC dX0_layRow_5 rfl (by decide) (fun z => [(3, z), (0, .ref (b + 0)), (1, vI a1), (2, vI a2)]) (fun _ => rfl) ?_
  refine s_aload_nR hC dX0_layRow_6 rfl 0 rfl ?_
  refine s_ifnullR (tgt := 29) hC dX0_layRow_7 (by decide) ?_ ?_
  · refine s_sub (L' := [(0, .ref (b + 0)), (1, vI a1), (2, vI a2)]) [1, 2, 3] rfl ?_
    refine s_aload_n hC dX0_layRow_29 rfl 0 rfl ?_
    refine s_iload_n hC dX0_layRow_30 rfl 1 rfl ?_
    refine s_callV_V (As := [vI a1]) (rest := []) (a := b + 0) hC hKA 1 (m_X0_addRow hJ hσ h1) (fun _ h => h) rfl (cb_of hC 1 q_c_yX0_addRow q_i_X0 q_m_X0_73 rfl rfl dd_yX0_addRow ⟨Nat.le_of_ble_eq_true rfl, Nat.le_of_ble_eq_true rfl⟩) q_i_yX0_addRow q_x_yX0_addRow (s_recv hK (hJ.1 σ) (by decide) o_Book rfl) rfl (Nat.le_of_ble_eq_true rfl) dX0_layRow_31 ⟨Nat.zero_le _, Nat.zero_le _⟩ (fun r2 σ3 hσ3 => ?_)
    refine s_astoreR hC dX0_layRow_34 (by decide) (fun z => [(4, z), (0, .ref (b + 0)), (1, vI a1), (2, vI a2)]) (fun _ => rfl) ?_
    refine s_aloadR hC dX0_layRow_36 0 rfl ?_
    refine s_ifnonnullR (tgt := 43) hC dX0_layRow_38 (by decide) ?_ ?_
    · refine s_sub (L' := []) [] rfl ?_
      refine s_null hC dX0_layRow_41 ?_
      exact s_aret hC hr (-1) rfl dX0_layRow_42 (fun H hH => ⟨rfl, hσ3, hH⟩)
    · refine s_gkR (fun q4 hq4 eq4 => ?_)
      subst eq4
      refine s_sub (L' := [(4, .ref (b + (8 + 3 * q4))), (0, .ref (b + 0)), (1, vI a1), (2, vI a2)]) [0, 1, 2, 3] rfl ?_
      refine s_sub (L' := [(0, .ref (b + 0)), (2, vI a2), (4, .ref (b + (8 + 3 * q4)))]) [1, 3, 0] rfl ?_
      refine s_aload hC dX0_layRow_43 2 rfl ?_
      refine s_iload_n hC dX0_layRow_45 rfl 1 rfl ?_
      refine s_putP (ty := .int) hC hK hJ (fun _ h => h) hσ3 h2 (by omega) (o_Row (q := q4)) rfl q_w_X7 tyX7_ok nmX7 1 (by decide) q_f_X0_66 rfl (by decide +kernel) rfl rfl (fun _ => Nat.le_of_ble_eq_true rfl) u_Row_1 dX0_layRow_46 (fun σ5 hσ5 => ?_)
      refine s_aload_n hC dX0_layRow_49 rfl 0 rfl ?_
      refine s_aload hC dX0_layRow_50 2 rfl ?_
      refine s_callV_W (As := [.ref (b + (8 + 3 * q4))]) (rest := []) (a := b + 0) hC hKA 1 (m_X0_layNew hJ hσ5 hq4) (fun _ h => h) rfl (cb_of hC 1 q_c_yX0_layNew q_i_X0 q_m_X0_76 rfl rfl dd_yX0_layNew ⟨Nat.le_of_ble_eq_true rfl, Nat.le_of_ble_eq_true rfl⟩) q_i_yX0_layNew q_x_yX0_layNew (s_recv hK (hJ.1 σ5) (by decide) o_Book rfl) rfl (Nat.le_of_ble_eq_true rfl) dX0_layRow_52 ⟨Nat.zero_le _, Nat.zero_le _⟩ (fun r6 σ7 hr6 hσ7 => ?_)
      refine s_if_eq (tgt := 63) hC dX0_layRow_55 (by decide) hr6 ?_ ?_
      · refine s_sub (L' := []) [] rfl ?_
        refine s_null hC dX0_layRow_63 ?_
        exact s_aret hC hr (-1) rfl dX0_layRow_64 (fun H hH => ⟨rfl, hσ7, hH⟩)
      · refine s_sub (L' := [(4, .ref (b + (8 + 3 * q4)))]) [2] rfl ?_
        refine s_aload hC dX0_layRow_58 0 rfl ?_
        refine s_goto (tgt := 64) hC dX0_layRow_60 (by decide) ?_
        refine s_sub (L' := []) [] rfl ?_
        exact s_aret hC hr (q4 : Int) rfl dX0_layRow_64 (fun H hH => ⟨rfl, hσ7, hH⟩)
  · refine s_gkR (fun q8 hq8 eq8 => ?_)
    subst eq8
    refine s_sub (L' := [(3, .ref (b + (8 + 3 * q8))), (0, .ref (b + 0)), (1, vI a1), (2, vI a2)]) [0, 1, 2, 3] rfl ?_
    refine s_sub (L' := [(0, .ref (b + 0)), (2, vI a2), (3, .ref (b + (8 + 3 * q8)))]) [1, 3, 0] rfl ?_
    refine s_aload_n hC dX0_layRow_10 rfl 2 rfl ?_
    refine s_iload_n hC dX0_layRow_11 rfl 1 rfl ?_
    refine s_putP (ty := .int) hC hK hJ (fun _ h => h) hσ h2 (by omega) (o_Row (q := q8)) rfl q_w_X7 tyX7_ok nmX7 1 (by decide) q_f_X0_66 rfl (by decide +kernel) rfl rfl (fun _ => Nat.le_of_ble_eq_true rfl) u_Row_1 dX0_layRow_12 (fun σ9 hσ9 => ?_)
    refine s_aload_n hC dX0_layRow_15 rfl 0 rfl ?_
    refine s_aload_n hC dX0_layRow_16 rfl 2 rfl ?_
    refine s_callV_W (As := [.ref (b + (8 + 3 * q8))]) (rest := []) (a := b + 0) hC hKA 1 (m_X0_layAgain hJ hσ9 hq8) (fun _ h => h) rfl (cb_of hC 1 q_c_yX0_layAgain q_i_X0 q_m_X0_69 rfl rfl dd_yX0_layAgain ⟨Nat.le_of_ble_eq_true rfl, Nat.le_of_ble_eq_true rfl⟩) q_i_yX0_layAgain q_x_yX0_layAgain (s_recv hK (hJ.1 σ9) (by decide) o_Book rfl) rfl (Nat.le_of_ble_eq_true rfl) dX0_layRow_17 ⟨Nat.zero_le _, Nat.zero_le _⟩ (fun r10 σ11 hr10 hσ11 => ?_)
    refine s_if_eq (tgt := 27) hC dX0_layRow_20 (by decide) hr10 ?_ ?_
    · refine s_sub (L' := []) [] rfl ?_
      refine s_null hC dX0_layRow_27 ?_
      exact s_aret hC hr (-1) rfl dX0_layRow_28 (fun H hH => ⟨rfl, hσ11, hH⟩)
    · refine s_sub (L' := [(3, .ref (b + (8 + 3 * q8)))]) [2] rfl ?_
      refine s_aload_n hC dX0_layRow_23 rfl 0 rfl ?_
      refine s_goto (tgt := 28) hC dX0_layRow_24 (by decide) ?_
      refine s_sub (L' := []) [] rfl ?_
      exact s_aret hC hr (q8 : Int) rfl dX0_layRow_28 (fun H hH => ⟨rfl, hσ11, hH⟩)
set_option maxHeartbeats 4000000 in
set_option maxRecDepth 100000 in
theorem m_X0_removeRow {l : Launch} {G : Gt} {b : Nat} {σ : Blk} {J : Blk → Heap → Prop} (hJ : Wd G (layBook G b) 98 b J) (hσ : Rg σ) {k1 : Nat} (hk1 : k1 < 30) : MetS l yX0_removeRow cX0_removeRow 2 none { frames := 2, cells := 0, slots := 0, locals := 43 } G [.ref (b + 0), .ref (b + (8 + 3 * k1))] (J σ) (poU J) (Ab b 98) 0 0 (g_X0_removeRow σ k1) := by
  refine met_of (by decide) (Nat.le_of_ble_eq_true rfl) ?_
  intro p e s m below meth c hC hKA hr _
  have hK := hKA.1
  unfold g_X0_removeRow
  refine s_sub (L' := [(0, .ref (b + 0)), (1, .ref (b + (8 + 3 * k1)))]) [0, 1] rfl ?_
  refine s_aload_n hC dX0_removeRow_0 rfl 0 rfl ?_
  refine s_aload_n hC dX0_removeRow_1 rfl 1 rfl ?_
  refine s_callV_U (As := [.ref (b + (8 + 3 * k1))]) (rest := []) (a := b + 0) hC hKA 1 (m_X0_liftPieces hJ hσ hk1) (fun _ h => h) rfl (cb_of hC 1 q_c_yX0_liftPieces q_i_X0 q_m_X0_103 rfl rfl dd_yX0_liftPieces ⟨Nat.le_of_ble_eq_true rfl, Nat.le_of_ble_eq_true rfl⟩) q_i_yX0_liftPieces q_x_yX0_liftPieces (s_recv hK (hJ.1 σ) (by decide) o_Book rfl) rfl (Nat.le_of_ble_eq_true rfl) dX0_removeRow_2 ⟨Nat.zero_le _, Nat.zero_le _⟩ (fun σ1 hσ1 => ?_)
  refine s_aload_n hC dX0_removeRow_5 rfl 0 rfl ?_
  refine s_get (b := b) hC hK (hJ.1 σ1) (by decide) o_Book rfl q_w_X0 3 (by decide) q_f_X0_24 rfl dX0_removeRow_6 ?_
  refine s_aload_n hC dX0_removeRow_9 rfl 1 rfl ?_
  refine s_get (b := b) hC hK (hJ.1 σ1) (by omega) (o_Row (q := k1)) rfl q_w_X7 3 (by decide) q_f_X0_97 rfl dX0_removeRow_10 ?_
  refine s_callV_U (As := [vI (σ1 (8 + 3 * k1) 3)]) (rest := []) (a := b + 1) hC hKA 1 (m_X3_vacate hJ hσ1 (hσ1 (8 + 3 * k1) 3)) (fun _ h => h) rfl (cb_of hC 1 q_c_yX3_vacate q_i_X3 q_m_X0_106 rfl rfl dd_yX3_vacate ⟨Nat.le_of_ble_eq_true rfl, Nat.le_of_ble_eq_true rfl⟩) q_i_yX3_vacate q_x_yX3_vacate (s_recv hK (hJ.1 σ1) (by decide) o_Pages rfl) rfl (Nat.le_of_ble_eq_true rfl) dX0_removeRow_13 ⟨Nat.zero_le _, Nat.zero_le _⟩ (fun σ2 hσ2 => ?_)
  refine s_aload_n hC dX0_removeRow_16 rfl 1 rfl ?_
  refine s_callV_P (As := []) (rest := []) (a := b + (8 + 3 * k1)) hC hKA 0 (m_X7_hasMoved (hJ.1 σ2) hσ2 hk1) rfl (cb_of hC 0 q_c_yX7_hasMoved q_i_X7 q_m_X0_121 rfl rfl dd_yX7_hasMoved ⟨Nat.le_of_ble_eq_true rfl, Nat.le_of_ble_eq_true rfl⟩) q_i_yX7_hasMoved q_x_yX7_hasMoved (s_recv hK (hJ.1 σ2) (by omega) (o_Row (q := k1)) rfl) rfl (Nat.le_of_ble_eq_true rfl) dX0_removeRow_17 ⟨Nat.zero_le _, Nat.zero_le _⟩ (fun r3 hr3 => ?_)
  refine s_jp_B (J := J) 34 ([(0, .ref (b + 0)), (1, .ref (b + (8 + 3 * k1)))]) ([]) (fun σ5 hσ5 => ?_) (fun j4 hj4 => ?_)
  · refine s_aload_n hC dX0_removeRow_34 rfl 0 rfl ?_
    refine s_get (b := b) hC hK (hJ.1 σ5) (by decide) o_Book rfl q_w_X0 5 (by decide) q_f_X0_34 rfl dX0_removeRow_35 ?_
    refine s_aload_n hC dX0_removeRow_38 rfl 1 rfl ?_
    refine s_get (b := b) hC hK (hJ.1 σ5) (by omega) (o_Row (q := k1)) rfl q_w_X7 0 (by decide) q_f_X0_79 rfl dX0_removeRow_39 ?_
    refine s_iconst hC dX0_removeRow_42 ?_
    refine s_callSN_U (As := [.ref (b + 7), vI (σ5 (8 + 3 * k1) 0), vI ((-1))]) (rest := []) hC hKA 3 (m_X4_store hJ hσ5 (by decide) a_Book_7 (hσ5 (8 + 3 * k1) 0) (inR_c _ rfl)) (fun _ h => h) rfl (cn_of hC hKA 3 q_c_yX4_store q_i_X4 nwm_X0_82 rfl rfl dd_yX4_store ⟨Nat.le_of_ble_eq_true rfl, Nat.le_of_ble_eq_true rfl⟩) q_s_yX4_store rfl (Nat.le_of_ble_eq_true rfl) dX0_removeRow_43 ⟨Nat.zero_le _, Nat.zero_le _⟩ (fun σ6 hσ6 => ?_)
    refine s_aload_n hC dX0_removeRow_46 rfl 1 rfl ?_
    refine s_iconst hC dX0_removeRow_47 ?_
    refine s_putP (ty := .int) hC hK hJ (fun _ h => h) hσ6 (inR_c _ rfl) (by omega) (o_Row (q := k1)) rfl q_w_X7 tyX7_ok nmX7 0 (by decide) q_f_X0_79 rfl (by decide +kernel) rfl rfl (fun _ => Nat.le_of_ble_eq_true rfl) u_Row_0 dX0_removeRow_48 (fun σ7 hσ7 => ?_)
    refine s_aload_n hC dX0_removeRow_51 rfl 0 rfl ?_
    refine s_dup hC dX0_removeRow_52 rfl ?_
    refine s_get (b := b) hC hK (hJ.1 σ7) (by decide) o_Book rfl q_w_X0 2 (by decide) q_f_X0_18 rfl dX0_removeRow_53 ?_
    refine s_iconst hC dX0_removeRow_56 ?_
    refine s_isub hC dX0_removeRow_57 ?_
    refine s_ck0 (fun v8 hv8 => ?_)
    refine s_putP (ty := .int) hC hK hJ (fun _ h => h) hσ7 hv8 (by decide) o_Book rfl q_w_X0 tyX0_ok nmX0 2 (by decide) q_f_X0_18 rfl (by decide +kernel) rfl rfl (fun _ => Nat.le_of_ble_eq_true rfl) u_Book_2 dX0_removeRow_58 (fun σ9 hσ9 => ?_)
    exact s_vret hC hr dX0_removeRow_61 (fun H hH => ⟨rfl, hσ9, hH⟩)
  · refine s_if_eq (tgt := 34) hC dX0_removeRow_20 (by decide) hr3 ?_ ?_
    · exact hj4 σ2 hσ2
    · refine s_aload_n hC dX0_removeRow_23 rfl 0 rfl ?_
      refine s_get (b := b) hC hK (hJ.1 σ2) (by decide) o_Book rfl q_w_X0 3 (by decide) q_f_X0_24 rfl dX0_removeRow_24 ?_
      refine s_aload_n hC dX0_removeRow_27 rfl 1 rfl ?_
      refine s_get (b := b) hC hK (hJ.1 σ2) (by omega) (o_Row (q := k1)) rfl q_w_X7 2 (by decide) q_f_X0_94 rfl dX0_removeRow_28 ?_
      refine s_callV_U (As := [vI (σ2 (8 + 3 * k1) 2)]) (rest := []) (a := b + 1) hC hKA 1 (m_X3_vacate hJ hσ2 (hσ2 (8 + 3 * k1) 2)) (fun _ h => h) rfl (cb_of hC 1 q_c_yX3_vacate q_i_X3 q_m_X0_106 rfl rfl dd_yX3_vacate ⟨Nat.le_of_ble_eq_true rfl, Nat.le_of_ble_eq_true rfl⟩) q_i_yX3_vacate q_x_yX3_vacate (s_recv hK (hJ.1 σ2) (by decide) o_Pages rfl) rfl (Nat.le_of_ble_eq_true rfl) dX0_removeRow_31 ⟨Nat.zero_le _, Nat.zero_le _⟩ (fun σ10 hσ10 => ?_)
      exact hj4 σ10 hσ10
set_option maxHeartbeats 4000000 in
set_option maxRecDepth 100000 in
theorem m_X0_packAll {l : Launch} {G : Gt} {b : Nat} {σ : Blk} {J : Blk → Heap → Prop} (hJ : Wd G (layBook G b) 98 b J) (hσ : Rg σ)  : MetS l yX0_packAll cX0_packAll 3 (some .boolean) { frames := 5, cells := 0, slots := 0, locals := 115 } G [.ref (b + 0)] (J σ) (poW J) (Ab b 98) 0 0 (g_X0_packAll σ) := by
  refine met_of (by decide) (Nat.le_of_ble_eq_true rfl) ?_
  intro p e s m below meth c hC hKA hr _
  have hK := hKA.1
  unfold g_X0_packAll
  refine s_sub (L' := [(0, .ref (b + 0))]) [0] rfl ?_
  refine s_aload_n hC dX0_packAll_0 rfl 0 rfl ?_
  refine s_get (b := b) hC hK (hJ.1 σ) (by decide) o_Book rfl q_w_X0 3 (by decide) q_f_X0_24 rfl dX0_packAll_1 ?_
  refine s_callV_U (As := []) (rest := []) (a := b + 1) hC hKA 0 (m_X3_clear hJ hσ) (fun _ h => h) rfl (cb_of hC 0 q_c_yX3_clear q_i_X3 q_m_X0_140 rfl rfl dd_yX3_clear ⟨Nat.le_of_ble_eq_true rfl, Nat.le_of_ble_eq_true rfl⟩) q_i_yX3_clear q_x_yX3_clear (s_recv hK (hJ.1 σ) (by decide) o_Pages rfl) rfl (Nat.le_of_ble_eq_true rfl) dX0_packAll_4 ⟨Nat.zero_le _, Nat.zero_le _⟩ (fun σ1 hσ1 => ?_)
  refine s_iconst hC dX0_packAll_7 ?_
  refine s_istore_n (L' := [(1, vI 0), (0, .ref (b + 0))]) hC dX0_packAll_8 rfl (by decide) rfl ?_
  refine s_sub (L' := [(0, .ref (b + 0)), (1, vI 0)]) [1, 0] rfl ?_
  refine s_lp_IB (J := J) (F := g_X0_packAll_L9) 9 (fun x2 => [(0, .ref (b + 0)), (1, vI x2)]) (fun _ _ => rfl) (fun n ih9 x2 σ3 hx2 hσ3 => ?_) fu 0 σ1 (inR_c _ rfl) hσ1
  rw [g_X0_packAll_L9]
  refine s_iload_n hC dX0_packAll_9 rfl 1 rfl ?_
  refine s_bipush hC dX0_packAll_10 (by decide) ?_
  refine s_icmp_ge (tgt := 41) hC dX0_packAll_12 (by decide) hx2 (inR_c _ rfl) ?_ ?_
  · refine s_sub (L' := []) [] rfl ?_
    refine s_iconst hC dX0_packAll_41 ?_
    exact s_zret hC hr (Or.inr rfl) dX0_packAll_42 (fun H hH => ⟨rfl, (inR_c _ rfl), hσ3, hH⟩)
  · refine s_aload_n hC dX0_packAll_15 rfl 0 rfl ?_
    refine s_iload_n hC dX0_packAll_16 rfl 1 rfl ?_
    refine s_callV_R (As := [vI x2]) (rest := []) (a := b + 0) hC hKA 1 (m_X0_rowOf (hJ.1 σ3) hσ3 hx2) rfl (cb_of hC 1 q_c_yX0_rowOf q_i_X0 q_m_X0_62 rfl rfl dd_yX0_rowOf ⟨Nat.le_of_ble_eq_true rfl, Nat.le_of_ble_eq_true rfl⟩) q_i_yX0_rowOf q_x_yX0_rowOf (s_recv hK (hJ.1 σ3) (by decide) o_Book rfl) rfl (Nat.le_of_ble_eq_true rfl) dX0_packAll_17 ⟨Nat.zero_le _, Nat.zero_le _⟩ (fun r4 => ?_)
    refine s_astore_nR hC dX0_packAll_20 rfl (by decide) (fun z => [(2, z), (0, .ref (b + 0)), (1, vI x2)]) (fun _ => rfl) ?_
    refine s_aload_nR hC dX0_packAll_21 rfl 0 rfl ?_
    refine s_jp_B (J := J) 35 ([(0, .ref (b + 0)), (1, vI x2)]) ([]) (fun σ6 hσ6 => ?_) (fun j5 hj5 => ?_)
    · refine s_iincK hC dX0_packAll_35 1 rfl (by decide) (fun v7 => [(1, vI v7), (0, .ref (b + 0))]) (fun _ => rfl) (fun v7 hv7 => ?_)
      refine s_goto (tgt := 9) hC dX0_packAll_38 (by decide) ?_
      refine s_sub (L' := [(0, .ref (b + 0)), (1, vI v7)]) [1, 0] rfl ?_
      exact ih9 v7 σ6 hv7 hσ6
    · refine s_ifnullR (tgt := 35) hC dX0_packAll_22 (by decide) ?_ ?_
      · refine s_sub (L' := [(0, .ref (b + 0)), (1, vI x2)]) [1, 2] rfl ?_
        exact hj5 σ3 hσ3
      · refine s_gkR (fun q8 hq8 eq8 => ?_)
        subst eq8
        refine s_sub (L' := [(2, .ref (b + (8 + 3 * q8))), (0, .ref (b + 0)), (1, vI x2)]) [0, 1, 2] rfl ?_
        refine s_sub (L' := [(0, .ref (b + 0)), (1, vI x2), (2, .ref (b + (8 + 3 * q8)))]) [1, 2, 0] rfl ?_
        refine s_aload_n hC dX0_packAll_25 rfl 0 rfl ?_
        refine s_aload_n hC dX0_packAll_26 rfl 2 rfl ?_
        refine s_callV_W (As := [.ref (b + (8 + 3 * q8))]) (rest := []) (a := b + 0) hC hKA 1 (m_X0_layNew hJ hσ3 hq8) (fun _ h => h) rfl (cb_of hC 1 q_c_yX0_layNew q_i_X0 q_m_X0_76 rfl rfl dd_yX0_layNew ⟨Nat.le_of_ble_eq_true rfl, Nat.le_of_ble_eq_true rfl⟩) q_i_yX0_layNew q_x_yX0_layNew (s_recv hK (hJ.1 σ3) (by decide) o_Book rfl) rfl (Nat.le_of_ble_eq_true rfl) dX0_packAll_27 ⟨Nat.zero_le _, Nat.zero_le _⟩ (fun r9 σ10 hr9 hσ10 => ?_)
        refine s_if_ne (tgt := 35) hC dX0_packAll_30 (by decide) hr9 ?_ ?_
        · refine s_sub (L' := [(0, .ref (b + 0)), (1, vI x2)]) [0, 1] rfl ?_
          exact hj5 σ10 hσ10
        · refine s_sub (L' := []) [] rfl ?_
          refine s_iconst hC dX0_packAll_33 ?_
          exact s_zret hC hr (Or.inl rfl) dX0_packAll_34 (fun H hH => ⟨rfl, (inR_c _ rfl), hσ10, hH⟩)
set_option maxHeartbeats 4000000 in
set_option maxRecDepth 100000 in
theorem m_X0_cellsOf {l : Launch} {G : Gt} {b : Nat} {σ : Blk} {I : Heap → Prop} (hI : ∀ H, I H → Bk G (layBook G b) 98 b σ H) (hσ : Rg σ) {k1 : Nat} (hk1 : k1 < 30) : MetS l yX0_cellsOf cX0_cellsOf 4 (some .int) { frames := 1, cells := 0, slots := 0, locals := 21 } G [.ref (b + 0), .ref (b + (8 + 3 * k1))] I (poP I) (fun _ => False) 0 0 (g_X0_cellsOf σ k1) := by
  refine met_of (by decide) (Nat.le_of_ble_eq_true rfl) ?_
  intro p e s m below meth c hC hKA hr _
  have hK := hKA.1
  unfold g_X0_cellsOf
  refine s_sub (L' := [(0, .ref (b + 0)), (1, .ref (b + (8 + 3 * k1)))]) [0, 1] rfl ?_
  refine s_aload_n hC dX0_cellsOf_0 rfl 0 rfl ?_
  refine s_get (b := b) hC hK hI (by decide) o_Book rfl q_w_X0 3 (by decide) q_f_X0_24 rfl dX0_cellsOf_1 ?_
  refine s_get (b := b) hC hK hI (by decide) o_Pages rfl q_w_X3 2 (by decide) q_f_X0_143 rfl dX0_cellsOf_4 ?_
  refine s_aload_n hC dX0_cellsOf_7 rfl 1 rfl ?_
  refine s_get (b := b) hC hK hI (by omega) (o_Row (q := k1)) rfl q_w_X7 3 (by decide) q_f_X0_97 rfl dX0_cellsOf_8 ?_
  refine s_callSN_P (As := [.ref (b + 4), vI (σ (8 + 3 * k1) 3)]) (rest := []) hC hKA 2 (m_X4_at hI hσ (by decide) a_Book_4 (hσ (8 + 3 * k1) 3)) rfl (cn_of hC hKA 2 q_c_yX4_at q_i_X4 nwm_X0_58 rfl rfl dd_yX4_at ⟨Nat.le_of_ble_eq_true rfl, Nat.le_of_ble_eq_true rfl⟩) q_s_yX4_at rfl (Nat.le_of_ble_eq_true rfl) dX0_cellsOf_11 ⟨Nat.zero_le _, Nat.zero_le _⟩ (fun r1 hr1 => ?_)
  refine s_istore_n (L' := [(2, vI r1), (0, .ref (b + 0)), (1, .ref (b + (8 + 3 * k1)))]) hC dX0_cellsOf_14 rfl (by decide) rfl ?_
  refine s_iconst hC dX0_cellsOf_15 ?_
  refine s_istore_n (L' := [(3, vI 0), (2, vI r1), (0, .ref (b + 0)), (1, .ref (b + (8 + 3 * k1)))]) hC dX0_cellsOf_16 rfl (by decide) rfl ?_
  refine s_sub (L' := [(0, .ref (b + 0)), (1, .ref (b + (8 + 3 * k1))), (2, vI r1), (3, vI 0)]) [2, 3, 1, 0] rfl ?_
  refine s_jp_I 52 (fun x3 => [(1, .ref (b + (8 + 3 * k1))), (2, vI x3)]) (fun x3 => []) (fun x3 hx3 => ?_) (fun j2 hj2 => ?_)
  · refine s_aload_n hC dX0_cellsOf_52 rfl 0 rfl ?_
    refine s_callV_P (As := []) (rest := []) (a := b + (8 + 3 * k1)) hC hKA 0 (m_X7_hasMoved hI hσ hk1) rfl (cb_of hC 0 q_c_yX7_hasMoved q_i_X7 q_m_X0_121 rfl rfl dd_yX7_hasMoved ⟨Nat.le_of_ble_eq_true rfl, Nat.le_of_ble_eq_true rfl⟩) q_i_yX7_hasMoved q_x_yX7_hasMoved (s_recv hK hI (by omega) (o_Row (q := k1)) rfl) rfl (Nat.le_of_ble_eq_true rfl) dX0_cellsOf_53 ⟨Nat.zero_le _, Nat.zero_le _⟩ (fun r4 hr4 => ?_)
    refine s_if_eq (tgt := 65) hC dX0_cellsOf_56 (by decide) hr4 ?_ ?_
    · refine s_sub (L' := [(2, vI x3)]) [1] rfl ?_
      refine s_iload_n hC dX0_cellsOf_65 rfl 0 rfl ?_
      refine s_sub (L' := []) [] rfl ?_
      exact s_iret hC hr dX0_cellsOf_66 (fun H hH => ⟨rfl, hx3, hH⟩)
    · refine s_sub (L' := [(2, vI x3)]) [1] rfl ?_
      refine s_iload_n hC dX0_cellsOf_59 rfl 0 rfl ?_
      refine s_iconst hC dX0_cellsOf_60 ?_
      refine s_iadd hC dX0_cellsOf_61 ?_
      refine s_goto (tgt := 66) hC dX0_cellsOf_62 (by decide) ?_
      refine s_sub (L' := []) [] rfl ?_
      refine s_ck0 (fun v5 hv5 => ?_)
      exact s_iret hC hr dX0_cellsOf_66 (fun H hH => ⟨rfl, hv5, hH⟩)
  · refine s_lp_II (F := g_X0_cellsOf_L17 σ k1 j2) 17 (fun x6 x7 => [(0, .ref (b + 0)), (1, .ref (b + (8 + 3 * k1))), (2, vI x6), (3, vI x7)]) (fun _ _ => rfl) (fun n ih17 x6 x7 hx6 hx7 => ?_) fu r1 0 hr1 (inR_c _ rfl)
    rw [g_X0_cellsOf_L17]
    refine s_iload_n hC dX0_cellsOf_17 rfl 3 rfl ?_
    refine s_aload_n hC dX0_cellsOf_18 rfl 1 rfl ?_
    refine s_get (b := b) hC hK hI (by omega) (o_Row (q := k1)) rfl q_w_X7 4 (by decide) q_f_X0_128 rfl dX0_cellsOf_19 ?_
    refine s_icmp_ge (tgt := 52) hC dX0_cellsOf_22 (by decide) hx7 (hσ (8 + 3 * k1) 4) ?_ ?_
    · refine s_sub (L' := [(1, .ref (b + (8 + 3 * k1))), (2, vI x6)]) [1, 2] rfl ?_
      exact hj2 x6 hx6
    · refine s_iload_n hC dX0_cellsOf_25 rfl 2 rfl ?_
      refine s_aload_n hC dX0_cellsOf_26 rfl 0 rfl ?_
      refine s_get (b := b) hC hK hI (by decide) o_Book rfl q_w_X0 3 (by decide) q_f_X0_24 rfl dX0_cellsOf_27 ?_
      refine s_get (b := b) hC hK hI (by decide) o_Pages rfl q_w_X3 2 (by decide) q_f_X0_143 rfl dX0_cellsOf_30 ?_
      refine s_aload_n hC dX0_cellsOf_33 rfl 1 rfl ?_
      refine s_get (b := b) hC hK hI (by omega) (o_Row (q := k1)) rfl q_w_X7 5 (by decide) q_f_X0_137 rfl dX0_cellsOf_34 ?_
      refine s_iload_n hC dX0_cellsOf_37 rfl 3 rfl ?_
      refine s_callSN_P (As := [.ref (b + (9 + 3 * k1)), vI x7]) (rest := [.ref (b + 4), vI x6]) hC hKA 2 (m_X4_at hI hσ (by omega) (a_Spots (q := k1)) hx7) rfl (cn_of hC hKA 2 q_c_yX4_at q_i_X4 nwm_X0_58 rfl rfl dd_yX4_at ⟨Nat.le_of_ble_eq_true rfl, Nat.le_of_ble_eq_true rfl⟩) q_s_yX4_at rfl (Nat.le_of_ble_eq_true rfl) dX0_cellsOf_38 ⟨Nat.zero_le _, Nat.zero_le _⟩ (fun r8 hr8 => ?_)
      refine s_callSN_P (As := [.ref (b + 4), vI r8]) (rest := [vI x6]) hC hKA 2 (m_X4_at hI hσ (by decide) a_Book_4 hr8) rfl (cn_of hC hKA 2 q_c_yX4_at q_i_X4 nwm_X0_58 rfl rfl dd_yX4_at ⟨Nat.le_of_ble_eq_true rfl, Nat.le_of_ble_eq_true rfl⟩) q_s_yX4_at rfl (Nat.le_of_ble_eq_true rfl) dX0_cellsOf_41 ⟨Nat.zero_le _, Nat.zero_le _⟩ (fun r9 hr9 => ?_)
      refine s_iadd hC dX0_cellsOf_44 ?_
      refine s_ck0 (fun v10 hv10 => ?_)
      refine s_istore_n (L' := [(2, vI v10), (0, .ref (b + 0)), (1, .ref (b + (8 + 3 * k1))), (3, vI x7)]) hC dX0_cellsOf_45 rfl (by decide) rfl ?_
      refine s_iincK hC dX0_cellsOf_46 3 rfl (by decide) (fun v11 => [(3, vI v11), (2, vI v10), (0, .ref (b + 0)), (1, .ref (b + (8 + 3 * k1)))]) (fun _ => rfl) (fun v11 hv11 => ?_)
      refine s_goto (tgt := 17) hC dX0_cellsOf_49 (by decide) ?_
      refine s_sub (L' := [(0, .ref (b + 0)), (1, .ref (b + (8 + 3 * k1))), (2, vI v10), (3, vI v11)]) [2, 3, 1, 0] rfl ?_
      exact ih17 v10 v11 hv10 hv11
set_option maxHeartbeats 4000000 in
set_option maxRecDepth 100000 in
theorem m_X0_costInAll {l : Launch} {G : Gt} {b : Nat} {σ : Blk} {I : Heap → Prop} (hI : ∀ H, I H → Bk G (layBook G b) 98 b σ H) (hσ : Rg σ)  : MetS l yX0_costInAll cX0_costInAll 4 (some .int) { frames := 2, cells := 0, slots := 0, locals := 45 } G [.ref (b + 0)] I (poP I) (fun _ => False) 0 0 (g_X0_costInAll σ) := by
  refine met_of (by decide) (Nat.le_of_ble_eq_true rfl) ?_
  intro p e s m below meth c hC hKA hr _
  have hK := hKA.1
  unfold g_X0_costInAll
  refine s_sub (L' := [(0, .ref (b + 0))]) [0] rfl ?_
  refine s_iconst hC dX0_costInAll_0 ?_
  refine s_istore_n (L' := [(1, vI 0), (0, .ref (b + 0))]) hC dX0_costInAll_1 rfl (by decide) rfl ?_
  refine s_iconst hC dX0_costInAll_2 ?_
  refine s_istore_n (L' := [(2, vI 0), (1, vI 0), (0, .ref (b + 0))]) hC dX0_costInAll_3 rfl (by decide) rfl ?_
  refine s_sub (L' := [(0, .ref (b + 0)), (1, vI 0), (2, vI 0)]) [2, 1, 0] rfl ?_
  refine s_lp_II (F := g_X0_costInAll_L4 σ) 4 (fun x1 x2 => [(0, .ref (b + 0)), (1, vI x1), (2, vI x2)]) (fun _ _ => rfl) (fun n ih4 x1 x2 hx1 hx2 => ?_) fu 0 0 (inR_c _ rfl) (inR_c _ rfl)
  rw [g_X0_costInAll_L4]
  refine s_iload_n hC dX0_costInAll_4 rfl 2 rfl ?_
  refine s_bipush hC dX0_costInAll_5 (by decide) ?_
  refine s_icmp_ge (tgt := 33) hC dX0_costInAll_7 (by decide) hx2 (inR_c _ rfl) ?_ ?_
  · refine s_sub (L' := [(1, vI x1)]) [1] rfl ?_
    refine s_iload_n hC dX0_costInAll_33 rfl 0 rfl ?_
    exact s_iret hC hr dX0_costInAll_34 (fun H hH => ⟨rfl, hx1, hH⟩)
  · refine s_aload_n hC dX0_costInAll_10 rfl 0 rfl ?_
    refine s_iload_n hC dX0_costInAll_11 rfl 2 rfl ?_
    refine s_callV_R (As := [vI x2]) (rest := []) (a := b + 0) hC hKA 1 (m_X0_rowOf hI hσ hx2) rfl (cb_of hC 1 q_c_yX0_rowOf q_i_X0 q_m_X0_62 rfl rfl dd_yX0_rowOf ⟨Nat.le_of_ble_eq_true rfl, Nat.le_of_ble_eq_true rfl⟩) q_i_yX0_rowOf q_x_yX0_rowOf (s_recv hK hI (by decide) o_Book rfl) rfl (Nat.le_of_ble_eq_true rfl) dX0_costInAll_12 ⟨Nat.zero_le _, Nat.zero_le _⟩ (fun r3 => ?_)
    refine s_astore_nR hC dX0_costInAll_15 rfl (by decide) (fun z => [(3, z), (0, .ref (b + 0)), (1, vI x1), (2, vI x2)]) (fun _ => rfl) ?_
    refine s_aload_nR hC dX0_costInAll_16 rfl 0 rfl ?_
    refine s_jp_I 27 (fun x5 => [(0, .ref (b + 0)), (1, vI x5), (2, vI x2)]) (fun x5 => []) (fun x5 hx5 => ?_) (fun j4 hj4 => ?_)
    · refine s_iincK hC dX0_costInAll_27 2 rfl (by decide) (fun v6 => [(2, vI v6), (0, .ref (b + 0)), (1, vI x5)]) (fun _ => rfl) (fun v6 hv6 => ?_)
      refine s_goto (tgt := 4) hC dX0_costInAll_30 (by decide) ?_
      refine s_sub (L' := [(0, .ref (b + 0)), (1, vI x5), (2, vI v6)]) [1, 2, 0] rfl ?_
      exact ih4 x5 v6 hx5 hv6
    · refine s_ifnullR (tgt := 27) hC dX0_costInAll_17 (by decide) ?_ ?_
      · refine s_sub (L' := [(0, .ref (b + 0)), (1, vI x1), (2, vI x2)]) [1, 2, 3] rfl ?_
        exact hj4 x1 hx1
      · refine s_gkR (fun q7 hq7 eq7 => ?_)
        subst eq7
        refine s_sub (L' := [(3, .ref (b + (8 + 3 * q7))), (0, .ref (b + 0)), (1, vI x1), (2, vI x2)]) [0, 1, 2, 3] rfl ?_
        refine s_sub (L' := [(0, .ref (b + 0)), (1, vI x1), (2, vI x2), (3, .ref (b + (8 + 3 * q7)))]) [1, 2, 3, 0] rfl ?_
        refine s_iload_n hC dX0_costInAll_20 rfl 1 rfl ?_
        refine s_aload_n hC dX0_costInAll_21 rfl 3 rfl ?_
        refine s_callV_P (As := []) (rest := [vI x1]) (a := b + (8 + 3 * q7)) hC hKA 0 (m_X7_cost hI hσ hq7) rfl (cb_of hC 0 q_c_yX7_cost q_i_X7 q_m_X0_146 rfl rfl dd_yX7_cost ⟨Nat.le_of_ble_eq_true rfl, Nat.le_of_ble_eq_true rfl⟩) q_i_yX7_cost q_x_yX7_cost (s_recv hK hI (by omega) (o_Row (q := q7)) rfl) rfl (Nat.le_of_ble_eq_true rfl) dX0_costInAll_22 ⟨Nat.zero_le _, Nat.zero_le _⟩ (fun r8 hr8 => ?_)
        refine s_iadd hC dX0_costInAll_25 ?_
        refine s_ck0 (fun v9 hv9 => ?_)
        refine s_istore_n (L' := [(1, vI v9), (0, .ref (b + 0)), (2, vI x2), (3, .ref (b + (8 + 3 * q7)))]) hC dX0_costInAll_26 rfl (by decide) rfl ?_
        refine s_sub (L' := [(0, .ref (b + 0)), (1, vI v9), (2, vI x2)]) [1, 0, 2] rfl ?_
        exact hj4 v9 hv9
set_option maxHeartbeats 4000000 in
set_option maxRecDepth 100000 in
theorem m_X0_greatestCost {l : Launch} {G : Gt} {b : Nat} {σ : Blk} {I : Heap → Prop} (hI : ∀ H, I H → Bk G (layBook G b) 98 b σ H) (hσ : Rg σ)  : MetS l yX0_greatestCost cX0_greatestCost 4 (some .int) { frames := 2, cells := 0, slots := 0, locals := 45 } G [.ref (b + 0)] I (poP I) (fun _ => False) 0 0 (g_X0_greatestCost σ) := by
  refine met_of (by decide) (Nat.le_of_ble_eq_true rfl) ?_
  intro p e s m below meth c hC hKA hr _
  have hK := hKA.1
  unfold g_X0_greatestCost
  refine s_sub (L' := [(0, .ref (b + 0))]) [0] rfl ?_
  refine s_iconst hC dX0_greatestCost_0 ?_
  refine s_istore_n (L' := [(1, vI 0), (0, .ref (b + 0))]) hC dX0_greatestCost_1 rfl (by decide) rfl ?_
  refine s_iconst hC dX0_greatestCost_2 ?_
  refine s_istore_n (L' := [(2, vI 0), (1, vI 0), (0, .ref (b + 0))]) hC dX0_greatestCost_3 rfl (by decide) rfl ?_
  refine s_sub (L' := [(0, .ref (b + 0)), (1, vI 0), (2, vI 0)]) [2, 1, 0] rfl ?_
  refine s_lp_II (F := g_X0_greatestCost_L4 σ) 4 (fun x1 x2 => [(0, .ref (b + 0)), (1, vI x1), (2, vI x2)]) (fun _ _ => rfl) (fun n ih4 x1 x2 hx1 hx2 => ?_) fu 0 0 (inR_c _ rfl) (inR_c _ rfl)
  rw [g_X0_greatestCost_L4]
  refine s_iload_n hC dX0_greatestCost_4 rfl 2 rfl ?_
  refine s_bipush hC dX0_greatestCost_5 (by decide) ?_
  refine s_icmp_ge (tgt := 35) hC dX0_greatestCost_7 (by decide) hx2 (inR_c _ rfl) ?_ ?_
  · refine s_sub (L' := [(1, vI x1)]) [1] rfl ?_
    refine s_iload_n hC dX0_greatestCost_35 rfl 0 rfl ?_
    exact s_iret hC hr dX0_greatestCost_36 (fun H hH => ⟨rfl, hx1, hH⟩)
  · refine s_aload_n hC dX0_greatestCost_10 rfl 0 rfl ?_
    refine s_iload_n hC dX0_greatestCost_11 rfl 2 rfl ?_
    refine s_callV_R (As := [vI x2]) (rest := []) (a := b + 0) hC hKA 1 (m_X0_rowOf hI hσ hx2) rfl (cb_of hC 1 q_c_yX0_rowOf q_i_X0 q_m_X0_62 rfl rfl dd_yX0_rowOf ⟨Nat.le_of_ble_eq_true rfl, Nat.le_of_ble_eq_true rfl⟩) q_i_yX0_rowOf q_x_yX0_rowOf (s_recv hK hI (by decide) o_Book rfl) rfl (Nat.le_of_ble_eq_true rfl) dX0_greatestCost_12 ⟨Nat.zero_le _, Nat.zero_le _⟩ (fun r3 => ?_)
    refine s_astore_nR hC dX0_greatestCost_15 rfl (by decide) (fun z => [(3, z), (0, .ref (b + 0)), (1, vI x1), (2, vI x2)]) (fun _ => rfl) ?_
    refine s_aload_nR hC dX0_greatestCost_16 rfl 0 rfl ?_
    refine s_jp_I 29 (fun x5 => [(0, .ref (b + 0)), (1, vI x5), (2, vI x2)]) (fun x5 => []) (fun x5 hx5 => ?_) (fun j4 hj4 => ?_)
    · refine s_iincK hC dX0_greatestCost_29 2 rfl (by decide) (fun v6 => [(2, vI v6), (0, .ref (b + 0)), (1, vI x5)]) (fun _ => rfl) (fun v6 hv6 => ?_)
      refine s_goto (tgt := 4) hC dX0_greatestCost_32 (by decide) ?_
      refine s_sub (L' := [(0, .ref (b + 0)), (1, vI x5), (2, vI v6)]) [1, 2, 0] rfl ?_
      exact ih4 x5 v6 hx5 hv6
    · refine s_ifnullR (tgt := 29) hC dX0_greatestCost_17 (by decide) ?_ ?_
      · refine s_sub (L' := [(0, .ref (b + 0)), (1, vI x1), (2, vI x2)]) [1, 2, 3] rfl ?_
        exact hj4 x1 hx1
      · refine s_gkR (fun q7 hq7 eq7 => ?_)
        subst eq7
        refine s_sub (L' := [(3, .ref (b + (8 + 3 * q7))), (0, .ref (b + 0)), (1, vI x1), (2, vI x2)]) [0, 1, 2, 3] rfl ?_
        refine s_sub (L' := [(0, .ref (b + 0)), (1, vI x1), (2, vI x2), (3, .ref (b + (8 + 3 * q7)))]) [1, 2, 3, 0] rfl ?_
        refine s_iload_n hC dX0_greatestCost_20 rfl 1 rfl ?_
        refine s_aload_n hC dX0_greatestCost_21 rfl 3 rfl ?_
        refine s_callV_P (As := []) (rest := [vI x1]) (a := b + (8 + 3 * q7)) hC hKA 0 (m_X7_cost hI hσ hq7) rfl (cb_of hC 0 q_c_yX7_cost q_i_X7 q_m_X0_146 rfl rfl dd_yX7_cost ⟨Nat.le_of_ble_eq_true rfl, Nat.le_of_ble_eq_true rfl⟩) q_i_yX7_cost q_x_yX7_cost (s_recv hK hI (by omega) (o_Row (q := q7)) rfl) rfl (Nat.le_of_ble_eq_true rfl) dX0_greatestCost_22 ⟨Nat.zero_le _, Nat.zero_le _⟩ (fun r8 hr8 => ?_)
        refine s_mmax hC hx1 hr8 q_m_X0_150 q_s_Lib_Math_max_name q_i_J9 q_c_yJ9_max_7cf53 (Nat.le_of_ble_eq_true rfl) (Nat.le_of_ble_eq_true rfl) ⟨Nat.zero_le _, Nat.zero_le _⟩ dX0_greatestCost_25 ?_
        refine s_nm ((imax_in hx1 hr8)) (fun v9 hv9 => ?_)
        refine s_istore_n (L' := [(1, vI v9), (0, .ref (b + 0)), (2, vI x2), (3, .ref (b + (8 + 3 * q7)))]) hC dX0_greatestCost_28 rfl (by decide) rfl ?_
        refine s_sub (L' := [(0, .ref (b + 0)), (1, vI v9), (2, vI x2)]) [1, 0, 2] rfl ?_
        exact hj4 v9 hv9
set_option maxHeartbeats 4000000 in
set_option maxRecDepth 100000 in
theorem m_X0_lettersInAll {l : Launch} {G : Gt} {b : Nat} {σ : Blk} {I : Heap → Prop} (hI : ∀ H, I H → Bk G (layBook G b) 98 b σ H) (hσ : Rg σ)  : MetS l yX0_lettersInAll cX0_lettersInAll 4 (some .int) { frames := 2, cells := 0, slots := 0, locals := 43 } G [.ref (b + 0)] I (poP I) (fun _ => False) 0 0 (g_X0_lettersInAll σ) := by
  refine met_of (by decide) (Nat.le_of_ble_eq_true rfl) ?_
  intro p e s m below meth c hC hKA hr _
  have hK := hKA.1
  unfold g_X0_lettersInAll
  refine s_sub (L' := [(0, .ref (b + 0))]) [0] rfl ?_
  refine s_iconst hC dX0_lettersInAll_0 ?_
  refine s_istore_n (L' := [(1, vI 0), (0, .ref (b + 0))]) hC dX0_lettersInAll_1 rfl (by decide) rfl ?_
  refine s_iconst hC dX0_lettersInAll_2 ?_
  refine s_istore_n (L' := [(2, vI 0), (1, vI 0), (0, .ref (b + 0))]) hC dX0_lettersInAll_3 rfl (by decide) rfl ?_
  refine s_sub (L' := [(0, .ref (b + 0)), (1, vI 0), (2, vI 0)]) [2, 1, 0] rfl ?_
  refine s_lp_II (F := g_X0_lettersInAll_L4 σ) 4 (fun x1 x2 => [(0, .ref (b + 0)), (1, vI x1), (2, vI x2)]) (fun _ _ => rfl) (fun n ih4 x1 x2 hx1 hx2 => ?_) fu 0 0 (inR_c _ rfl) (inR_c _ rfl)
  rw [g_X0_lettersInAll_L4]
  refine s_iload_n hC dX0_lettersInAll_4 rfl 2 rfl ?_
  refine s_bipush hC dX0_lettersInAll_5 (by decide) ?_
  refine s_icmp_ge (tgt := 33) hC dX0_lettersInAll_7 (by decide) hx2 (inR_c _ rfl) ?_ ?_
  · refine s_sub (L' := [(1, vI x1)]) [1] rfl ?_
    refine s_iload_n hC dX0_lettersInAll_33 rfl 0 rfl ?_
    exact s_iret hC hr dX0_lettersInAll_34 (fun H hH => ⟨rfl, hx1, hH⟩)
  · refine s_aload_n hC dX0_lettersInAll_10 rfl 0 rfl ?_
    refine s_iload_n hC dX0_lettersInAll_11 rfl 2 rfl ?_
    refine s_callV_R (As := [vI x2]) (rest := []) (a := b + 0) hC hKA 1 (m_X0_rowOf hI hσ hx2) rfl (cb_of hC 1 q_c_yX0_rowOf q_i_X0 q_m_X0_62 rfl rfl dd_yX0_rowOf ⟨Nat.le_of_ble_eq_true rfl, Nat.le_of_ble_eq_true rfl⟩) q_i_yX0_rowOf q_x_yX0_rowOf (s_recv hK hI (by decide) o_Book rfl) rfl (Nat.le_of_ble_eq_true rfl) dX0_lettersInAll_12 ⟨Nat.zero_le _, Nat.zero_le _⟩ (fun r3 => ?_)
    refine s_astore_nR hC dX0_lettersInAll_15 rfl (by decide) (fun z => [(3, z), (0, .ref (b + 0)), (1, vI x1), (2, vI x2)]) (fun _ => rfl) ?_
    refine s_aload_nR hC dX0_lettersInAll_16 rfl 0 rfl ?_
    refine s_jp_I 27 (fun x5 => [(0, .ref (b + 0)), (1, vI x5), (2, vI x2)]) (fun x5 => []) (fun x5 hx5 => ?_) (fun j4 hj4 => ?_)
    · refine s_iincK hC dX0_lettersInAll_27 2 rfl (by decide) (fun v6 => [(2, vI v6), (0, .ref (b + 0)), (1, vI x5)]) (fun _ => rfl) (fun v6 hv6 => ?_)
      refine s_goto (tgt := 4) hC dX0_lettersInAll_30 (by decide) ?_
      refine s_sub (L' := [(0, .ref (b + 0)), (1, vI x5), (2, vI v6)]) [1, 2, 0] rfl ?_
      exact ih4 x5 v6 hx5 hv6
    · refine s_ifnullR (tgt := 27) hC dX0_lettersInAll_17 (by decide) ?_ ?_
      · refine s_sub (L' := [(0, .ref (b + 0)), (1, vI x1), (2, vI x2)]) [1, 2, 3] rfl ?_
        exact hj4 x1 hx1
      · refine s_gkR (fun q7 hq7 eq7 => ?_)
        subst eq7
        refine s_sub (L' := [(3, .ref (b + (8 + 3 * q7))), (0, .ref (b + 0)), (1, vI x1), (2, vI x2)]) [0, 1, 2, 3] rfl ?_
        refine s_sub (L' := [(0, .ref (b + 0)), (1, vI x1), (2, vI x2), (3, .ref (b + (8 + 3 * q7)))]) [1, 2, 3, 0] rfl ?_
        refine s_iload_n hC dX0_lettersInAll_20 rfl 1 rfl ?_
        refine s_aload_n hC dX0_lettersInAll_21 rfl 3 rfl ?_
        refine s_get (b := b) hC hK hI (by omega) (o_Row (q := q7)) rfl q_w_X7 1 (by decide) q_f_X0_66 rfl dX0_lettersInAll_22 ?_
        refine s_iadd hC dX0_lettersInAll_25 ?_
        refine s_ck0 (fun v8 hv8 => ?_)
        refine s_istore_n (L' := [(1, vI v8), (0, .ref (b + 0)), (2, vI x2), (3, .ref (b + (8 + 3 * q7)))]) hC dX0_lettersInAll_26 rfl (by decide) rfl ?_
        refine s_sub (L' := [(0, .ref (b + 0)), (1, vI v8), (2, vI x2)]) [1, 0, 2] rfl ?_
        exact hj4 v8 hv8
