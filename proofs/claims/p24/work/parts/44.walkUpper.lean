set_option maxHeartbeats 4000000 in
set_option maxRecDepth 100000 in
theorem m_X1_record {l : Launch} {G : Gt} {x y0 nb : Nat} {σ : Blk} {B : Nat → Blk}  {V : Blk → (Nat → Blk) → Nat → Heap → Prop} (h5 : x + 205 ≤ y0) (hV : WV G x y0 V) (hσ : Rg σ) (hB : RgB B) (hn : 2 ≤ nb) {k1 : Nat} (hk1 : k1 < nb) (hk1r : inR (k1 : Int)) : MetS l yX1_record cX1_record 3 none { frames := 3, cells := 98, slots := 3960, locals := 89 } G [.ref (x + 6), .ref (ad x y0 k1 + 0)] (V σ B nb) (poY V) (Rx x y0) 98 3960 (g_X1_record σ B nb k1) := by
  refine met_of (by decide) (Nat.le_of_ble_eq_true rfl) ?_
  intro p e s m below meth c hC hKA hr _
  have hK := hKA.1
  unfold g_X1_record
  refine s_sub (L' := [(0, .ref (x + 6)), (1, .ref (ad x y0 k1 + 0))]) [0, 1] rfl ?_
  refine s_aload_n hC dX1_record_0 rfl 0 rfl ?_
  refine s_get hC hK (fun H h => ((hV.1 σ B nb) H h).x) (by decide) o_Hi rfl q_w_X1 2 (by decide) q_f_X1_21 rfl dX1_record_1 ?_
  refine s_aload_n hC dX1_record_4 rfl 0 rfl ?_
  refine s_get hC hK (fun H h => ((hV.1 σ B nb) H h).x) (by decide) o_Hi rfl q_w_X1 1 (by decide) q_f_X1_17 rfl dX1_record_5 ?_
  refine s_iadd hC dX1_record_8 ?_
  refine s_bipush hC dX1_record_9 (by decide) ?_
  refine s_ck1 (fun v1 hv1 => ?_)
  refine s_callS_P (As := [vI v1, vI 6]) (rest := []) hC hKA 2 (m_J9_floorMod_7cf53 (I := V σ B nb) hv1 (inR_c _ rfl)) rfl (cb_of hC 2 q_c_yJ9_floorMod_7cf53 q_i_J9 q_m_X1_24 rfl rfl dd_yJ9_floorMod_7cf53 ⟨Nat.le_of_ble_eq_true rfl, Nat.le_of_ble_eq_true rfl⟩) q_s_yJ9_floorMod_7cf53 rfl (Nat.le_of_ble_eq_true rfl) dX1_record_11 ⟨Nat.zero_le _, Nat.zero_le _⟩ (fun r2 hr2 => ?_)
  refine s_istore_n (L' := [(2, vI r2), (0, .ref (x + 6)), (1, .ref (ad x y0 k1 + 0))]) hC dX1_record_14 rfl (by decide) rfl ?_
  refine s_aload_n hC dX1_record_15 rfl 1 rfl ?_
  refine s_get hC hK (fun H h => ((hV.1 σ B nb) H h).x) (by decide) o_Hi rfl q_w_X1 0 (by decide) q_f_X1_11 rfl dX1_record_16 ?_
  refine s_iload_n hC dX1_record_19 rfl 0 rfl ?_
  refine u_aaldQ hC hK (hV.1 σ B nb) hσ (by decide) dX1_record_20 (fun v3 hv3 => ?_)
  refine u_jp_T (V := V) 98 3960 37 ([(0, .ref (x + 6)), (1, .ref (ad x y0 k1 + 0)), (2, vI r2)]) ([]) (fun σ5 B6 N7 hσ5 hB6 hN7 => ?_) (fun j4 hj4 => ?_)
  · refine s_aload_n hC dX1_record_37 rfl 0 rfl ?_
    refine s_get hC hK (fun H h => ((hV.1 σ5 B6 N7) H h).x) (by decide) o_Hi rfl q_w_X1 0 (by decide) q_f_X1_11 rfl dX1_record_38 ?_
    refine s_iload_n hC dX1_record_41 rfl 2 rfl ?_
    refine u_aaldQ hC hK (hV.1 σ5 B6 N7) hσ5 (by decide) dX1_record_42 (fun v8 hv8 => ?_)
    refine u_gk hv8 (fun q9 hq9 hq9r => ?_)
    refine s_aload_n hC dX1_record_43 rfl 1 rfl ?_
    refine s_lk (fun hk1 => ?_)
    refine s_ne (fun hne44 => ?_)
    refine u_callU (As := [.ref (ad x y0 k1 + 0)]) (rest := []) (q := q9) (off := 0) hC hKA (fun _ h => h) h5 hB6 1 (m_X0_copyFrom (b := ad x y0 q9) (J := fun β => V σ5 (ub B6 q9 β) N7) (hV.wb hq9) (hB6 q9) (fun β H h => by have h9 := (hV.1 _ _ _ _ h).book hk1; have e9 : ub B6 q9 β k1 = B6 k1 := if_neg (fun z => hne44 z.symm); rw [e9] at h9; exact h9) (hB6 k1)) rfl (cb_of hC 1 q_c_yX0_copyFrom q_i_X0 q_m_X1_31 rfl rfl dd_yX0_copyFrom ⟨Nat.le_of_ble_eq_true rfl, Nat.le_of_ble_eq_true rfl⟩) q_i_yX0_copyFrom q_x_yX0_copyFrom (s_recv hK (fun H h => ((hV.1 σ5 B6 N7) H h).book hq9) (by decide) o_Book rfl) rfl (Nat.le_of_ble_eq_true rfl) dX1_record_44 ⟨Nat.le_of_ble_eq_true rfl, Nat.le_of_ble_eq_true rfl⟩ (fun B10 hB10 => ?_)
    refine s_aload_n hC dX1_record_47 rfl 0 rfl ?_
    refine s_get hC hK (fun H h => ((hV.1 σ5 B10 N7) H h).x) (by decide) o_Hi rfl q_w_X1 1 (by decide) q_f_X1_17 rfl dX1_record_48 ?_
    refine s_bipush hC dX1_record_51 (by decide) ?_
    refine s_icmp_ge (tgt := 69) hC dX1_record_53 (by decide) (hσ5 6 1) (inR_c _ rfl) ?_ ?_
    · refine s_sub (L' := [(0, .ref (x + 6))]) [0] rfl ?_
      refine s_aload_n hC dX1_record_69 rfl 0 rfl ?_
      refine s_aload_n hC dX1_record_70 rfl 0 rfl ?_
      refine s_get hC hK (fun H h => ((hV.1 σ5 B10 N7) H h).x) (by decide) o_Hi rfl q_w_X1 2 (by decide) q_f_X1_21 rfl dX1_record_71 ?_
      refine s_iconst hC dX1_record_74 ?_
      refine s_iadd hC dX1_record_75 ?_
      refine s_bipush hC dX1_record_76 (by decide) ?_
      refine s_ck1 (fun v11 hv11 => ?_)
      refine s_irem hC dX1_record_78 hv11 (inR_c _ rfl) (by decide) (fun v12 hv12 => ?_)
      refine s_putP (J := fun σ => V σ B10 N7) (ty := .int) hC hK hV.wx (fun _ h => Rx_x h) hσ5 hv12 (by decide) o_Hi rfl q_w_X1 tyX1_ok nmX1 2 (by decide) q_f_X1_21 rfl (by decide +kernel) rfl rfl (fun _ => Nat.le_of_ble_eq_true rfl) u_Hi_2 dX1_record_79 (fun σ13 hσ13 => ?_)
      refine s_sub (L' := []) [] rfl ?_
      refine s_widen (k' := 98) (n' := 3960) (Nat.le_of_ble_eq_true rfl) (Nat.le_of_ble_eq_true rfl) ?_
      exact s_vret hC hr dX1_record_82 (fun H hH => ⟨rfl, hσ13, hB10, hN7, hH⟩)
    · refine s_sub (L' := [(0, .ref (x + 6))]) [0] rfl ?_
      refine s_aload_n hC dX1_record_56 rfl 0 rfl ?_
      refine s_dup hC dX1_record_57 rfl ?_
      refine s_get hC hK (fun H h => ((hV.1 σ5 B10 N7) H h).x) (by decide) o_Hi rfl q_w_X1 1 (by decide) q_f_X1_17 rfl dX1_record_58 ?_
      refine s_iconst hC dX1_record_61 ?_
      refine s_iadd hC dX1_record_62 ?_
      refine s_ck0 (fun v14 hv14 => ?_)
      refine s_putP (J := fun σ => V σ B10 N7) (ty := .int) hC hK hV.wx (fun _ h => Rx_x h) hσ5 hv14 (by decide) o_Hi rfl q_w_X1 tyX1_ok nmX1 1 (by decide) q_f_X1_17 rfl (by decide +kernel) rfl rfl (fun _ => Nat.le_of_ble_eq_true rfl) u_Hi_1 dX1_record_63 (fun σ15 hσ15 => ?_)
      refine s_goto (tgt := 82) hC dX1_record_66 (by decide) ?_
      refine s_sub (L' := []) [] rfl ?_
      refine s_widen (k' := 98) (n' := 3960) (Nat.le_of_ble_eq_true rfl) (Nat.le_of_ble_eq_true rfl) ?_
      exact s_vret hC hr dX1_record_82 (fun H hH => ⟨rfl, hσ15, hB10, hN7, hH⟩)
  · refine u_ifnonnull (tgt := 37) hC dX1_record_21 (by decide) ?_ ?_
    · refine s_sub (L' := [(0, .ref (x + 6)), (1, .ref (ad x y0 k1 + 0)), (2, vI r2)]) [1, 2, 0] rfl ?_
      refine s_aload_n hC dX1_record_24 rfl 0 rfl ?_
      refine s_get hC hK (fun H h => ((hV.1 σ B nb) H h).x) (by decide) o_Hi rfl q_w_X1 0 (by decide) q_f_X1_11 rfl dX1_record_25 ?_
      refine s_iload_n hC dX1_record_28 rfl 2 rfl ?_
      refine u_new hC hKA hV (fun _ h => h) h5 hn hB q_l_X1_9 q_m_X1_30 dX1_record_29 dX1_record_32 dX1_record_33 ⟨Nat.le_of_ble_eq_true rfl, Nat.le_of_ble_eq_true rfl⟩ ⟨Nat.le_of_ble_eq_true rfl, Nat.le_of_ble_eq_true rfl⟩ (Nat.le_of_ble_eq_true rfl) (fun B16 hB16 => ?_)
      generalize hN17e : nb + 1 = N17
      have hN17 : 2 ≤ N17 := by omega
      refine u_aastQ hC hK hV (fun _ h => h) hσ (by omega) (by decide) dX1_record_36 (fun σ18 hσ18 => ?_)
      exact hj4 σ18 B16 N17 hσ18 hB16 hN17
    · refine s_sub (L' := [(0, .ref (x + 6)), (1, .ref (ad x y0 k1 + 0)), (2, vI r2)]) [1, 2, 0] rfl ?_
      refine s_widen (k' := 98) (n' := 3960) (Nat.le_of_ble_eq_true rfl) (Nat.le_of_ble_eq_true rfl) ?_
      exact hj4 σ B nb hσ hB hn
set_option maxHeartbeats 4000000 in
set_option maxRecDepth 100000 in
theorem m_X4_setHead {l : Launch} {G : Gt} {x y0 nb : Nat} {σ : Blk} {B : Nat → Blk}  {V : Blk → (Nat → Blk) → Nat → Heap → Prop} (h5 : x + 205 ≤ y0) (hV : WV G x y0 V) (hσ : Rg σ) (hB : RgB B) (hn : 2 ≤ nb) {a1 : Int} (h1 : inR a1) : MetS l yX4_setHead cX4_setHead 3 (some .int) { frames := 4, cells := 98, slots := 3960, locals := 111 } G [.ref (x + 0), vI a1] (V σ B nb) (poT V) (Rx x y0) 98 3960 (g_X4_setHead σ B nb a1) := by
  refine met_of (by decide) (Nat.le_of_ble_eq_true rfl) ?_
  intro p e s m below meth c hC hKA hr _
  have hK := hKA.1
  unfold g_X4_setHead
  refine s_sub (L' := [(0, .ref (x + 0)), (1, vI a1)]) [0, 1] rfl ?_
  refine s_iload_n hC dX4_setHead_0 rfl 1 rfl ?_
  refine s_if_lt (tgt := 10) hC dX4_setHead_1 (by decide) h1 ?_ ?_
  · refine s_sub (L' := []) [] rfl ?_
    refine s_bipush hC dX4_setHead_10 (by decide) ?_
    refine s_widen (k' := 98) (n' := 3960) (Nat.le_of_ble_eq_true rfl) (Nat.le_of_ble_eq_true rfl) ?_
    exact s_iret hC hr dX4_setHead_12 (fun H hH => ⟨rfl, (inR_c _ rfl), hσ, hB, hn, hH⟩)
  · refine s_iload_n hC dX4_setHead_4 rfl 1 rfl ?_
    refine s_bipush hC dX4_setHead_5 (by decide) ?_
    refine s_icmp_le (tgt := 13) hC dX4_setHead_7 (by decide) h1 (inR_c _ rfl) ?_ ?_
    · refine s_aload_n hC dX4_setHead_13 rfl 0 rfl ?_
      refine s_get hC hK (fun H h => ((hV.1 σ B nb) H h).x) (by decide) o_X rfl q_w_X4 1 (by decide) q_f_X4_19 rfl dX4_setHead_14 ?_
      refine s_aload_n hC dX4_setHead_17 rfl 0 rfl ?_
      refine s_get hC hK (fun H h => ((hV.1 σ B nb) H h).x) (by decide) o_X rfl q_w_X4 3 (by decide) q_f_X4_30 rfl dX4_setHead_18 ?_
      refine u_gk (hσ 0 3) (fun q1 hq1 hq1r => ?_)
      refine u_up3 (As := [.ref (ad x y0 q1 + 0)]) (rest := []) (a := x + 6) (mc := 98) (ms := 3960) hC hKA 1 (m_X1_record h5 hV hσ hB hn hq1 hq1r) (fun _ h => h) rfl (cb_of hC 1 q_c_yX1_record q_i_X1 q_m_X4_44 rfl rfl dd_yX1_record ⟨Nat.le_of_ble_eq_true rfl, Nat.le_of_ble_eq_true rfl⟩) q_i_yX1_record q_x_yX1_record (s_recv hK (fun H h => ((hV.1 σ B nb) H h).x) (by decide) o_Hi rfl) rfl (Nat.le_of_ble_eq_true rfl) dX4_setHead_21 ⟨Nat.le_of_ble_eq_true rfl, Nat.le_of_ble_eq_true rfl⟩ (fun σ2 B3 N4 hσ2 hB3 hN4 => ?_)
      refine s_aload_n hC dX4_setHead_24 rfl 0 rfl ?_
      refine s_get hC hK (fun H h => ((hV.1 σ2 B3 N4) H h).x) (by decide) o_X rfl q_w_X4 3 (by decide) q_f_X4_30 rfl dX4_setHead_25 ?_
      refine u_gk (hσ2 0 3) (fun q5 hq5 hq5r => ?_)
      refine s_get (b := ad x y0 q5) hC hK (fun H h => ((hV.1 σ2 B3 N4) H h).book hq5) (by decide) o_Book rfl q_w_X0 0 (by decide) q_f_X4_48 rfl dX4_setHead_28 ?_
      refine s_nm ((hB3 q5 0 0)) (fun v6 hv6 => ?_)
      refine s_istore_n (L' := [(2, vI v6), (0, .ref (x + 0)), (1, vI a1)]) hC dX4_setHead_31 rfl (by decide) rfl ?_
      refine s_aload_n hC dX4_setHead_32 rfl 1 rfl ?_
      refine s_get hC hK (fun H h => ((hV.1 σ2 B3 N4) H h).x) (by decide) o_X rfl q_w_X4 3 (by decide) q_f_X4_30 rfl dX4_setHead_33 ?_
      refine u_gk (hσ2 0 3) (fun q7 hq7 hq7r => ?_)
      refine s_iload_n hC dX4_setHead_36 rfl 2 rfl ?_
      refine u_putB hC hK hV (fun _ h => h) h5 hB3 hq7 h1 (f := 0) (by decide) q_f_X4_48 rfl (by decide +kernel) (fun _ => Nat.le_of_ble_eq_true rfl) u_Book_0 dX4_setHead_37 (fun B8 hB8 => ?_)
      refine s_iload_n hC dX4_setHead_40 rfl 0 rfl ?_
      refine s_widen (k' := 98) (n' := 3960) (Nat.le_of_ble_eq_true rfl) (Nat.le_of_ble_eq_true rfl) ?_
      exact s_iret hC hr dX4_setHead_41 (fun H hH => ⟨rfl, hv6, hσ2, hB8, hN4, hH⟩)
    · refine s_sub (L' := []) [] rfl ?_
      refine s_bipush hC dX4_setHead_10 (by decide) ?_
      refine s_widen (k' := 98) (n' := 3960) (Nat.le_of_ble_eq_true rfl) (Nat.le_of_ble_eq_true rfl) ?_
      exact s_iret hC hr dX4_setHead_12 (fun H hH => ⟨rfl, (inR_c _ rfl), hσ, hB, hn, hH⟩)
set_option maxHeartbeats 4000000 in
set_option maxRecDepth 100000 in
theorem m_X4_setPiece {l : Launch} {G : Gt} {x y0 nb : Nat} {σ : Blk} {B : Nat → Blk}  {V : Blk → (Nat → Blk) → Nat → Heap → Prop} (h5 : x + 205 ≤ y0) (hV : WV G x y0 V) (hσ : Rg σ) (hB : RgB B) (hn : 2 ≤ nb) {a1 : Int} (h1 : inR a1) : MetS l yX4_setPiece cX4_setPiece 3 (some .int) { frames := 4, cells := 98, slots := 3960, locals := 111 } G [.ref (x + 0), vI a1] (V σ B nb) (poT V) (Rx x y0) 98 3960 (g_X4_setPiece σ B nb a1) := by
  refine met_of (by decide) (Nat.le_of_ble_eq_true rfl) ?_
  intro p e s m below meth c hC hKA hr _
  have hK := hKA.1
  unfold g_X4_setPiece
  refine s_sub (L' := [(0, .ref (x + 0)), (1, vI a1)]) [0, 1] rfl ?_
  refine s_iload_n hC dX4_setPiece_0 rfl 1 rfl ?_
  refine s_iconst hC dX4_setPiece_1 ?_
  refine s_icmp_lt (tgt := 11) hC dX4_setPiece_2 (by decide) h1 (inR_c _ rfl) ?_ ?_
  · refine s_sub (L' := []) [] rfl ?_
    refine s_bipush hC dX4_setPiece_11 (by decide) ?_
    refine s_widen (k' := 98) (n' := 3960) (Nat.le_of_ble_eq_true rfl) (Nat.le_of_ble_eq_true rfl) ?_
    exact s_iret hC hr dX4_setPiece_13 (fun H hH => ⟨rfl, (inR_c _ rfl), hσ, hB, hn, hH⟩)
  · refine s_iload_n hC dX4_setPiece_5 rfl 1 rfl ?_
    refine s_bipush hC dX4_setPiece_6 (by decide) ?_
    refine s_icmp_le (tgt := 14) hC dX4_setPiece_8 (by decide) h1 (inR_c _ rfl) ?_ ?_
    · refine s_aload_n hC dX4_setPiece_14 rfl 0 rfl ?_
      refine s_get hC hK (fun H h => ((hV.1 σ B nb) H h).x) (by decide) o_X rfl q_w_X4 1 (by decide) q_f_X4_19 rfl dX4_setPiece_15 ?_
      refine s_aload_n hC dX4_setPiece_18 rfl 0 rfl ?_
      refine s_get hC hK (fun H h => ((hV.1 σ B nb) H h).x) (by decide) o_X rfl q_w_X4 3 (by decide) q_f_X4_30 rfl dX4_setPiece_19 ?_
      refine u_gk (hσ 0 3) (fun q1 hq1 hq1r => ?_)
      refine u_up3 (As := [.ref (ad x y0 q1 + 0)]) (rest := []) (a := x + 6) (mc := 98) (ms := 3960) hC hKA 1 (m_X1_record h5 hV hσ hB hn hq1 hq1r) (fun _ h => h) rfl (cb_of hC 1 q_c_yX1_record q_i_X1 q_m_X4_44 rfl rfl dd_yX1_record ⟨Nat.le_of_ble_eq_true rfl, Nat.le_of_ble_eq_true rfl⟩) q_i_yX1_record q_x_yX1_record (s_recv hK (fun H h => ((hV.1 σ B nb) H h).x) (by decide) o_Hi rfl) rfl (Nat.le_of_ble_eq_true rfl) dX4_setPiece_22 ⟨Nat.le_of_ble_eq_true rfl, Nat.le_of_ble_eq_true rfl⟩ (fun σ2 B3 N4 hσ2 hB3 hN4 => ?_)
      refine s_aload_n hC dX4_setPiece_25 rfl 0 rfl ?_
      refine s_get hC hK (fun H h => ((hV.1 σ2 B3 N4) H h).x) (by decide) o_X rfl q_w_X4 3 (by decide) q_f_X4_30 rfl dX4_setPiece_26 ?_
      refine u_gk (hσ2 0 3) (fun q5 hq5 hq5r => ?_)
      refine s_get (b := ad x y0 q5) hC hK (fun H h => ((hV.1 σ2 B3 N4) H h).book hq5) (by decide) o_Book rfl q_w_X0 1 (by decide) q_f_X4_52 rfl dX4_setPiece_29 ?_
      refine s_nm ((hB3 q5 0 1)) (fun v6 hv6 => ?_)
      refine s_istore_n (L' := [(2, vI v6), (0, .ref (x + 0)), (1, vI a1)]) hC dX4_setPiece_32 rfl (by decide) rfl ?_
      refine s_aload_n hC dX4_setPiece_33 rfl 1 rfl ?_
      refine s_get hC hK (fun H h => ((hV.1 σ2 B3 N4) H h).x) (by decide) o_X rfl q_w_X4 3 (by decide) q_f_X4_30 rfl dX4_setPiece_34 ?_
      refine u_gk (hσ2 0 3) (fun q7 hq7 hq7r => ?_)
      refine s_iload_n hC dX4_setPiece_37 rfl 2 rfl ?_
      refine u_putB hC hK hV (fun _ h => h) h5 hB3 hq7 h1 (f := 1) (by decide) q_f_X4_52 rfl (by decide +kernel) (fun _ => Nat.le_of_ble_eq_true rfl) u_Book_1 dX4_setPiece_38 (fun B8 hB8 => ?_)
      refine s_iload_n hC dX4_setPiece_41 rfl 0 rfl ?_
      refine s_widen (k' := 98) (n' := 3960) (Nat.le_of_ble_eq_true rfl) (Nat.le_of_ble_eq_true rfl) ?_
      exact s_iret hC hr dX4_setPiece_42 (fun H hH => ⟨rfl, hv6, hσ2, hB8, hN4, hH⟩)
    · refine s_sub (L' := []) [] rfl ?_
      refine s_bipush hC dX4_setPiece_11 (by decide) ?_
      refine s_widen (k' := 98) (n' := 3960) (Nat.le_of_ble_eq_true rfl) (Nat.le_of_ble_eq_true rfl) ?_
      exact s_iret hC hr dX4_setPiece_13 (fun H hH => ⟨rfl, (inR_c _ rfl), hσ, hB, hn, hH⟩)
set_option maxHeartbeats 4000000 in
set_option maxRecDepth 100000 in
theorem m_X4_set {l : Launch} {G : Gt} {x y0 nb : Nat} {σ : Blk} {B : Nat → Blk}  {V : Blk → (Nat → Blk) → Nat → Heap → Prop} (h5 : x + 205 ≤ y0) (hV : WV G x y0 V) (hσ : Rg σ) (hB : RgB B) (hn : 2 ≤ nb) {a1 : Int} (h1 : inR a1) {a2 : Int} (h2 : inR a2) : MetS l yX4_set cX4_set 3 (some .int) { frames := 5, cells := 98, slots := 3960, locals := 133 } G [.ref (x + 0), vI a1, vI a2] (V σ B nb) (poT V) (Rx x y0) 98 3960 (g_X4_set σ B nb a1 a2) := by
  refine met_of (by decide) (Nat.le_of_ble_eq_true rfl) ?_
  intro p e s m below meth c hC hKA hr _
  have hK := hKA.1
  unfold g_X4_set
  refine s_sub (L' := [(0, .ref (x + 0)), (1, vI a1), (2, vI a2)]) [0, 1, 2] rfl ?_
  refine s_iload_n hC dX4_set_0 rfl 1 rfl ?_
  refine s_if_ne (tgt := 10) hC dX4_set_1 (by decide) h1 ?_ ?_
  · refine s_iload_n hC dX4_set_10 rfl 1 rfl ?_
    refine s_iconst hC dX4_set_11 ?_
    refine s_icmp_ne (tgt := 21) hC dX4_set_12 (by decide) h1 (inR_c _ rfl) ?_ ?_
    · refine s_sub (L' := []) [] rfl ?_
      refine s_bipush hC dX4_set_21 (by decide) ?_
      refine s_widen (k' := 98) (n' := 3960) (Nat.le_of_ble_eq_true rfl) (Nat.le_of_ble_eq_true rfl) ?_
      exact s_iret hC hr dX4_set_23 (fun H hH => ⟨rfl, (inR_c _ rfl), hσ, hB, hn, hH⟩)
    · refine s_sub (L' := [(0, .ref (x + 0)), (2, vI a2)]) [0, 2] rfl ?_
      refine s_aload_n hC dX4_set_15 rfl 0 rfl ?_
      refine s_iload_n hC dX4_set_16 rfl 1 rfl ?_
      refine u_up4 (As := [vI a2]) (rest := []) (a := x + 0) (mc := 98) (ms := 3960) hC hKA 1 (m_X4_setPiece h5 hV hσ hB hn h2) (fun _ h => h) rfl (cb_of hC 1 q_c_yX4_setPiece q_i_X4 q_m_X4_41 rfl rfl dd_yX4_setPiece ⟨Nat.le_of_ble_eq_true rfl, Nat.le_of_ble_eq_true rfl⟩) q_i_yX4_setPiece q_x_yX4_setPiece (s_recv hK (fun H h => ((hV.1 σ B nb) H h).x) (by decide) o_X rfl) rfl (Nat.le_of_ble_eq_true rfl) dX4_set_17 ⟨Nat.le_of_ble_eq_true rfl, Nat.le_of_ble_eq_true rfl⟩ (fun r4 σ1 B2 N3 hr4 hσ1 hB2 hN3 => ?_)
      refine s_widen (k' := 98) (n' := 3960) (Nat.le_of_ble_eq_true rfl) (Nat.le_of_ble_eq_true rfl) ?_
      exact s_iret hC hr dX4_set_20 (fun H hH => ⟨rfl, hr4, hσ1, hB2, hN3, hH⟩)
  · refine s_sub (L' := [(0, .ref (x + 0)), (2, vI a2)]) [0, 2] rfl ?_
    refine s_aload_n hC dX4_set_4 rfl 0 rfl ?_
    refine s_iload_n hC dX4_set_5 rfl 1 rfl ?_
    refine u_up4 (As := [vI a2]) (rest := []) (a := x + 0) (mc := 98) (ms := 3960) hC hKA 1 (m_X4_setHead h5 hV hσ hB hn h2) (fun _ h => h) rfl (cb_of hC 1 q_c_yX4_setHead q_i_X4 q_m_X4_37 rfl rfl dd_yX4_setHead ⟨Nat.le_of_ble_eq_true rfl, Nat.le_of_ble_eq_true rfl⟩) q_i_yX4_setHead q_x_yX4_setHead (s_recv hK (fun H h => ((hV.1 σ B nb) H h).x) (by decide) o_X rfl) rfl (Nat.le_of_ble_eq_true rfl) dX4_set_6 ⟨Nat.le_of_ble_eq_true rfl, Nat.le_of_ble_eq_true rfl⟩ (fun r8 σ5 B6 N7 hr8 hσ5 hB6 hN7 => ?_)
    refine s_widen (k' := 98) (n' := 3960) (Nat.le_of_ble_eq_true rfl) (Nat.le_of_ble_eq_true rfl) ?_
    exact s_iret hC hr dX4_set_9 (fun H hH => ⟨rfl, hr8, hσ5, hB6, hN7, hH⟩)
set_option maxHeartbeats 4000000 in
set_option maxRecDepth 100000 in
theorem m_X4_takeTrial {l : Launch} {G : Gt} {x y0 nb : Nat} {σ : Blk} {B : Nat → Blk}  {V : Blk → (Nat → Blk) → Nat → Heap → Prop} (h5 : x + 205 ≤ y0) (hV : WV G x y0 V) (hσ : Rg σ) (hB : RgB B) (hn : 2 ≤ nb)  : MetS l yX4_takeTrial cX4_takeTrial 2 none { frames := 0, cells := 0, slots := 0, locals := 0 } G [.ref (x + 0)] (V σ B nb) (poY V) (Rx x y0) 0 0 (g_X4_takeTrial σ B nb) := by
  refine met_of (by decide) (Nat.le_of_ble_eq_true rfl) ?_
  intro p e s m below meth c hC hKA hr _
  have hK := hKA.1
  unfold g_X4_takeTrial
  refine s_sub (L' := [(0, .ref (x + 0))]) [0] rfl ?_
  refine s_aload_n hC dX4_takeTrial_0 rfl 0 rfl ?_
  refine s_get hC hK (fun H h => ((hV.1 σ B nb) H h).x) (by decide) o_X rfl q_w_X4 3 (by decide) q_f_X4_30 rfl dX4_takeTrial_1 ?_
  refine u_gk (hσ 0 3) (fun q1 hq1 hq1r => ?_)
  refine s_astore_n (L' := [(1, .ref (ad x y0 q1 + 0)), (0, .ref (x + 0))]) hC dX4_takeTrial_4 rfl (by decide) rfl ?_
  refine s_aload_n hC dX4_takeTrial_5 rfl 1 rfl ?_
  refine s_aload_n hC dX4_takeTrial_6 rfl 1 rfl ?_
  refine s_get hC hK (fun H h => ((hV.1 σ B nb) H h).x) (by decide) o_X rfl q_w_X4 4 (by decide) q_f_X4_34 rfl dX4_takeTrial_7 ?_
  refine u_gk (hσ 0 4) (fun q2 hq2 hq2r => ?_)
  refine u_putQ hC hK hV (fun _ h => h) hσ hq2r (by decide) q_f_X4_30 dX4_takeTrial_10 (fun σ3 hσ3 => ?_)
  refine s_aload_n hC dX4_takeTrial_13 rfl 1 rfl ?_
  refine s_aload_n hC dX4_takeTrial_14 rfl 0 rfl ?_
  refine u_putQ hC hK hV (fun _ h => h) hσ3 hq1r (by decide) q_f_X4_34 dX4_takeTrial_15 (fun σ4 hσ4 => ?_)
  refine s_widen (k' := 0) (n' := 0) (Nat.le_of_ble_eq_true rfl) (Nat.le_of_ble_eq_true rfl) ?_
  exact s_vret hC hr dX4_takeTrial_18 (fun H hH => ⟨rfl, hσ4, hB, hn, hH⟩)
set_option maxHeartbeats 4000000 in
set_option maxRecDepth 100000 in
theorem m_X4_writePadRow {l : Launch} {G : Gt} {x y0 nb : Nat} {σ : Blk} {B : Nat → Blk}  {V : Blk → (Nat → Blk) → Nat → Heap → Prop} (h5 : x + 205 ≤ y0) (hV : WV G x y0 V) (hσ : Rg σ) (hB : RgB B) (hn : 2 ≤ nb) {a1 : Int} (h1 : inR a1) : MetS l yX4_writePadRow cX4_writePadRow 5 (some .boolean) { frames := 6, cells := 0, slots := 0, locals := 139 } G [.ref (x + 0), vI a1] (V σ B nb) (poT V) (Rx x y0) 0 0 (g_X4_writePadRow σ B nb a1) := by
  refine met_of (by decide) (Nat.le_of_ble_eq_true rfl) ?_
  intro p e s m below meth c hC hKA hr _
  have hK := hKA.1
  unfold g_X4_writePadRow
  refine s_sub (L' := [(0, .ref (x + 0)), (1, vI a1)]) [0, 1] rfl ?_
  refine s_aload_n hC dX4_writePadRow_0 rfl 0 rfl ?_
  refine s_get hC hK (fun H h => ((hV.1 σ B nb) H h).x) (by decide) o_X rfl q_w_X4 4 (by decide) q_f_X4_34 rfl dX4_writePadRow_1 ?_
  refine u_gk (hσ 0 4) (fun q1 hq1 hq1r => ?_)
  refine s_aload_n hC dX4_writePadRow_4 rfl 0 rfl ?_
  refine s_get hC hK (fun H h => ((hV.1 σ B nb) H h).x) (by decide) o_X rfl q_w_X4 3 (by decide) q_f_X4_30 rfl dX4_writePadRow_5 ?_
  refine u_gk (hσ 0 3) (fun q2 hq2 hq2r => ?_)
  refine s_ne (fun hne8 => ?_)
  refine u_callU (As := [.ref (ad x y0 q2 + 0)]) (rest := []) (q := q1) (off := 0) hC hKA (fun _ h => h) h5 hB 1 (m_X0_copyFrom (b := ad x y0 q1) (J := fun β => V σ (ub B q1 β) nb) (hV.wb hq1) (hB q1) (fun β H h => by have h9 := (hV.1 _ _ _ _ h).book hq2; have e9 : ub B q1 β q2 = B q2 := if_neg (fun z => hne8 z.symm); rw [e9] at h9; exact h9) (hB q2)) rfl (cb_of hC 1 q_c_yX0_copyFrom q_i_X0 q_m_X4_69 rfl rfl dd_yX0_copyFrom ⟨Nat.le_of_ble_eq_true rfl, Nat.le_of_ble_eq_true rfl⟩) q_i_yX0_copyFrom q_x_yX0_copyFrom (s_recv hK (fun H h => ((hV.1 σ B nb) H h).book hq1) (by decide) o_Book rfl) rfl (Nat.le_of_ble_eq_true rfl) dX4_writePadRow_8 ⟨Nat.le_of_ble_eq_true rfl, Nat.le_of_ble_eq_true rfl⟩ (fun B3 hB3 => ?_)
  refine s_aload_n hC dX4_writePadRow_11 rfl 0 rfl ?_
  refine s_get hC hK (fun H h => ((hV.1 σ B3 nb) H h).x) (by decide) o_X rfl q_w_X4 4 (by decide) q_f_X4_34 rfl dX4_writePadRow_12 ?_
  refine u_gk (hσ 0 4) (fun q4 hq4 hq4r => ?_)
  refine s_aload_n hC dX4_writePadRow_15 rfl 0 rfl ?_
  refine s_get hC hK (fun H h => ((hV.1 σ B3 nb) H h).x) (by decide) o_X rfl q_w_X4 0 (by decide) q_f_X4_12 rfl dX4_writePadRow_16 ?_
  refine s_get hC hK (fun H h => ((hV.1 σ B3 nb) H h).x) (by decide) o_PadX rfl q_w_X2 3 (by decide) q_f_X4_72 rfl dX4_writePadRow_19 ?_
  refine s_iload_n hC dX4_writePadRow_22 rfl 1 rfl ?_
  refine s_callS_P (As := [.ref (x + 3), vI a1]) (rest := [.ref (ad x y0 q4 + 0)]) hC hKA 2 (m_X4_at (fun H h => ((hV.1 σ B3 nb) H h).x) hσ (by decide) a_X_3 h1) rfl (cb_of hC 2 q_c_yX4_at q_i_X4 q_m_X4_76 rfl rfl dd_yX4_at ⟨Nat.le_of_ble_eq_true rfl, Nat.le_of_ble_eq_true rfl⟩) q_s_yX4_at rfl (Nat.le_of_ble_eq_true rfl) dX4_writePadRow_23 ⟨Nat.le_of_ble_eq_true rfl, Nat.le_of_ble_eq_true rfl⟩ (fun r5 hr5 => ?_)
  refine s_aload_n hC dX4_writePadRow_26 rfl 0 rfl ?_
  refine s_get hC hK (fun H h => ((hV.1 σ B3 nb) H h).x) (by decide) o_X rfl q_w_X4 0 (by decide) q_f_X4_12 rfl dX4_writePadRow_27 ?_
  refine s_get hC hK (fun H h => ((hV.1 σ B3 nb) H h).x) (by decide) o_PadX rfl q_w_X2 5 (by decide) q_f_X4_80 rfl dX4_writePadRow_30 ?_
  refine s_iload_n hC dX4_writePadRow_33 rfl 1 rfl ?_
  refine s_callS_P (As := [.ref (x + 5), vI a1]) (rest := [vI r5, .ref (ad x y0 q4 + 0)]) hC hKA 2 (m_X4_at (fun H h => ((hV.1 σ B3 nb) H h).x) hσ (by decide) a_X_5 h1) rfl (cb_of hC 2 q_c_yX4_at q_i_X4 q_m_X4_76 rfl rfl dd_yX4_at ⟨Nat.le_of_ble_eq_true rfl, Nat.le_of_ble_eq_true rfl⟩) q_s_yX4_at rfl (Nat.le_of_ble_eq_true rfl) dX4_writePadRow_34 ⟨Nat.le_of_ble_eq_true rfl, Nat.le_of_ble_eq_true rfl⟩ (fun r6 hr6 => ?_)
  refine u_callV (As := [vI r5, vI r6]) (rest := []) (q := q4) (off := 0) hC hKA (fun _ h => h) h5 hB3 2 (m_X0_layRow (b := ad x y0 q4) (J := fun β => V σ (ub B3 q4 β) nb) (hV.wb hq4) (hB3 q4) hr5 hr6) rfl (cb_of hC 2 q_c_yX0_layRow q_i_X0 q_m_X4_83 rfl rfl dd_yX0_layRow ⟨Nat.le_of_ble_eq_true rfl, Nat.le_of_ble_eq_true rfl⟩) q_i_yX0_layRow q_x_yX0_layRow (s_recv hK (fun H h => ((hV.1 σ B3 nb) H h).book hq4) (by decide) o_Book rfl) rfl (Nat.le_of_ble_eq_true rfl) dX4_writePadRow_37 ⟨Nat.le_of_ble_eq_true rfl, Nat.le_of_ble_eq_true rfl⟩ (fun r8 B7 hB7 => ?_)
  refine s_astore_nR hC dX4_writePadRow_40 rfl (by decide) (fun z => [(2, z), (0, .ref (x + 0)), (1, vI a1)]) (fun _ => rfl) ?_
  refine s_aload_nR hC dX4_writePadRow_41 rfl 0 rfl ?_
  refine s_ifnonnullR (tgt := 47) hC dX4_writePadRow_42 (by decide) ?_ ?_
  · refine s_sub (L' := []) [] rfl ?_
    refine s_iconst hC dX4_writePadRow_45 ?_
    refine s_widen (k' := 0) (n' := 0) (Nat.le_of_ble_eq_true rfl) (Nat.le_of_ble_eq_true rfl) ?_
    exact s_zret hC hr (Or.inl rfl) dX4_writePadRow_46 (fun H hH => ⟨rfl, (inR_c _ rfl), hσ, hB7, hn, hH⟩)
  · refine s_gkR (fun q9 hq9 eq9 => ?_)
    subst eq9
    refine s_sub (L' := [(2, .ref (ad x y0 q4 + (8 + 3 * q9))), (0, .ref (x + 0)), (1, vI a1)]) [0, 1, 2] rfl ?_
    refine s_sub (L' := [(0, .ref (x + 0)), (1, vI a1), (2, .ref (ad x y0 q4 + (8 + 3 * q9)))]) [1, 2, 0] rfl ?_
    refine s_aload_n hC dX4_writePadRow_47 rfl 0 rfl ?_
    refine s_get hC hK (fun H h => ((hV.1 σ B7 nb) H h).x) (by decide) o_X rfl q_w_X4 0 (by decide) q_f_X4_12 rfl dX4_writePadRow_48 ?_
    refine s_get hC hK (fun H h => ((hV.1 σ B7 nb) H h).x) (by decide) o_PadX rfl q_w_X2 4 (by decide) q_f_X4_87 rfl dX4_writePadRow_51 ?_
    refine s_iload_n hC dX4_writePadRow_54 rfl 1 rfl ?_
    refine s_callS_P (As := [.ref (x + 4), vI a1]) (rest := []) hC hKA 2 (m_X4_at (fun H h => ((hV.1 σ B7 nb) H h).x) hσ (by decide) a_X_4 h1) rfl (cb_of hC 2 q_c_yX4_at q_i_X4 q_m_X4_76 rfl rfl dd_yX4_at ⟨Nat.le_of_ble_eq_true rfl, Nat.le_of_ble_eq_true rfl⟩) q_s_yX4_at rfl (Nat.le_of_ble_eq_true rfl) dX4_writePadRow_55 ⟨Nat.le_of_ble_eq_true rfl, Nat.le_of_ble_eq_true rfl⟩ (fun r10 hr10 => ?_)
    refine s_istore_n (L' := [(3, vI r10), (0, .ref (x + 0)), (1, vI a1), (2, .ref (ad x y0 q4 + (8 + 3 * q9)))]) hC dX4_writePadRow_58 rfl (by decide) rfl ?_
    refine s_iconst hC dX4_writePadRow_59 ?_
    refine s_istore (L' := [(4, vI 0), (3, vI r10), (0, .ref (x + 0)), (1, vI a1), (2, .ref (ad x y0 q4 + (8 + 3 * q9)))]) hC dX4_writePadRow_60 (by decide) rfl ?_
    refine s_sub (L' := [(0, .ref (x + 0)), (2, .ref (ad x y0 q4 + (8 + 3 * q9))), (3, vI r10), (4, vI 0)]) [2, 4, 1, 0] rfl ?_
    refine u_jp_T (V := V) 0 0 103 ([(0, .ref (x + 0))]) ([]) (fun σ12 B13 N14 hσ12 hB13 hN14 => ?_) (fun j11 hj11 => ?_)
    · refine s_aload_n hC dX4_writePadRow_103 rfl 0 rfl ?_
      refine u_up3 (As := []) (rest := []) (a := x + 0) (mc := 0) (ms := 0) hC hKA 0 (m_X4_takeTrial h5 hV hσ12 hB13 hN14) (fun _ h => h) rfl (cb_of hC 0 q_c_yX4_takeTrial q_i_X4 q_m_X4_105 rfl rfl dd_yX4_takeTrial ⟨Nat.le_of_ble_eq_true rfl, Nat.le_of_ble_eq_true rfl⟩) q_i_yX4_takeTrial q_x_yX4_takeTrial (s_recv hK (fun H h => ((hV.1 σ12 B13 N14) H h).x) (by decide) o_X rfl) rfl (Nat.le_of_ble_eq_true rfl) dX4_writePadRow_104 ⟨Nat.le_of_ble_eq_true rfl, Nat.le_of_ble_eq_true rfl⟩ (fun σ15 B16 N17 hσ15 hB16 hN17 => ?_)
      refine s_iconst hC dX4_writePadRow_107 ?_
      refine s_widen (k' := 0) (n' := 0) (Nat.le_of_ble_eq_true rfl) (Nat.le_of_ble_eq_true rfl) ?_
      exact s_zret hC hr (Or.inr rfl) dX4_writePadRow_108 (fun H hH => ⟨rfl, (inR_c _ rfl), hσ15, hB16, hN17, hH⟩)
    · refine u_lp_IT (V := V) (F := g_X4_writePadRow_L62 q4 q9 r10 j11) 62 (fun x18 => [(0, .ref (x + 0)), (2, .ref (ad x y0 q4 + (8 + 3 * q9))), (3, vI r10), (4, vI x18)]) (fun _ _ _ _ => rfl) (fun n ih62 x18 σ19 B20 N21 hx18 hσ19 hB20 hN21 => ?_) fu 0 σ B7 nb (inR_c _ rfl) hσ hB7 hn
      rw [g_X4_writePadRow_L62]
      refine s_iload hC dX4_writePadRow_62 3 rfl ?_
      refine s_aload_n hC dX4_writePadRow_64 rfl 1 rfl ?_
      refine s_lk (fun hq4 => ?_)
      refine s_get (b := ad x y0 q4) hC hK (fun H h => ((hV.1 σ19 B20 N21) H h).book hq4) (by omega) (o_Row (q := q9)) rfl q_w_X7 1 (by decide) q_f_X4_90 rfl dX4_writePadRow_65 ?_
      refine s_icmp_ge (tgt := 103) hC dX4_writePadRow_68 (by decide) hx18 (hB20 q4 (8 + 3 * q9) 1) ?_ ?_
      · refine s_sub (L' := [(0, .ref (x + 0))]) [0] rfl ?_
        exact hj11 σ19 B20 N21 hσ19 hB20 hN21
      · refine s_aload_n hC dX4_writePadRow_71 rfl 1 rfl ?_
        refine s_get (b := ad x y0 q4) hC hK (fun H h => ((hV.1 σ19 B20 N21) H h).book hq4) (by omega) (o_Row (q := q9)) rfl q_w_X7 6 (by decide) q_f_X4_95 rfl dX4_writePadRow_72 ?_
        refine s_iload hC dX4_writePadRow_75 3 rfl ?_
        refine s_aload_n hC dX4_writePadRow_77 rfl 0 rfl ?_
        refine s_get hC hK (fun H h => ((hV.1 σ19 B20 N21) H h).x) (by decide) o_X rfl q_w_X4 0 (by decide) q_f_X4_12 rfl dX4_writePadRow_78 ?_
        refine s_get hC hK (fun H h => ((hV.1 σ19 B20 N21) H h).x) (by decide) o_PadX rfl q_w_X2 0 (by decide) q_f_X4_98 rfl dX4_writePadRow_81 ?_
        refine s_iload_n hC dX4_writePadRow_84 rfl 2 rfl ?_
        refine s_iload hC dX4_writePadRow_85 3 rfl ?_
        refine s_iadd hC dX4_writePadRow_87 ?_
        refine s_ck0 (fun v22 hv22 => ?_)
        refine s_callS_P (As := [.ref (x + 2), vI v22]) (rest := [vI x18, .ref (ad x y0 q4 + (10 + 3 * q9))]) hC hKA 2 (m_X4_at (fun H h => ((hV.1 σ19 B20 N21) H h).x) hσ19 (by decide) a_X_2 hv22) rfl (cb_of hC 2 q_c_yX4_at q_i_X4 q_m_X4_76 rfl rfl dd_yX4_at ⟨Nat.le_of_ble_eq_true rfl, Nat.le_of_ble_eq_true rfl⟩) q_s_yX4_at rfl (Nat.le_of_ble_eq_true rfl) dX4_writePadRow_88 ⟨Nat.le_of_ble_eq_true rfl, Nat.le_of_ble_eq_true rfl⟩ (fun r23 hr23 => ?_)
        refine s_bipush hC dX4_writePadRow_91 (by decide) ?_
        refine s_isub hC dX4_writePadRow_93 ?_
        refine s_ck0 (fun v24 hv24 => ?_)
        refine u_callSU (As := [.ref (ad x y0 q4 + (10 + 3 * q9)), vI x18, vI v24]) (rest := []) (q := q4) hC hKA (fun _ h => h) h5 hB20 3 (m_X4_store (b := ad x y0 q4) (J := fun β => V σ19 (ub B20 q4 β) N21) (hV.wb hq4) (hB20 q4) (by omega) (a_Text (q := q9)) hx18 hv24) rfl (cb_of hC 3 q_c_yX4_store q_i_X4 q_m_X4_101 rfl rfl dd_yX4_store ⟨Nat.le_of_ble_eq_true rfl, Nat.le_of_ble_eq_true rfl⟩) q_s_yX4_store rfl (Nat.le_of_ble_eq_true rfl) dX4_writePadRow_94 ⟨Nat.le_of_ble_eq_true rfl, Nat.le_of_ble_eq_true rfl⟩ (fun B25 hB25 => ?_)
        refine s_iincK hC dX4_writePadRow_97 3 rfl (by decide) (fun v26 => [(4, vI v26), (0, .ref (x + 0)), (2, .ref (ad x y0 q4 + (8 + 3 * q9))), (3, vI r10)]) (fun _ => rfl) (fun v26 hv26 => ?_)
        refine s_goto (tgt := 62) hC dX4_writePadRow_100 (by decide) ?_
        refine s_sub (L' := [(0, .ref (x + 0)), (2, .ref (ad x y0 q4 + (8 + 3 * q9))), (3, vI r10), (4, vI v26)]) [1, 2, 3, 0] rfl ?_
        exact ih62 v26 σ19 B25 N21 hv26 hσ19 hB25 hN21
set_option maxHeartbeats 4000000 in
set_option maxRecDepth 100000 in
theorem m_X4_write {l : Launch} {G : Gt} {x y0 nb : Nat} {σ : Blk} {B : Nat → Blk}  {V : Blk → (Nat → Blk) → Nat → Heap → Prop} (h5 : x + 205 ≤ y0) (hV : WV G x y0 V) (hσ : Rg σ) (hB : RgB B) (hn : 2 ≤ nb)  : MetS l yX4_write cX4_write 2 (some .int) { frames := 7, cells := 98, slots := 3960, locals := 163 } G [.ref (x + 0)] (V σ B nb) (poT V) (Rx x y0) 98 3960 (g_X4_write σ B nb) := by
  refine met_of (by decide) (Nat.le_of_ble_eq_true rfl) ?_
  intro p e s m below meth c hC hKA hr _
  have hK := hKA.1
  unfold g_X4_write
  refine s_sub (L' := [(0, .ref (x + 0))]) [0] rfl ?_
  refine s_aload_n hC dX4_write_0 rfl 0 rfl ?_
  refine s_get hC hK (fun H h => ((hV.1 σ B nb) H h).x) (by decide) o_X rfl q_w_X4 0 (by decide) q_f_X4_12 rfl dX4_write_1 ?_
  refine u_padW (As := []) (rest := []) hC hKA (fun _ h => h) hσ 0 (m_X2_read (b := x + 1) (J := fun π => V (ipad σ π) B nb) hV.wp (Rg_opad hσ)) rfl (cb_of hC 0 q_c_yX2_read q_i_X2 q_m_X4_55 rfl rfl dd_yX2_read ⟨Nat.le_of_ble_eq_true rfl, Nat.le_of_ble_eq_true rfl⟩) q_i_yX2_read q_x_yX2_read (s_recv hK (fun H h => ((hV.1 σ B nb) H h).x) (by decide) o_PadX rfl) rfl (Nat.le_of_ble_eq_true rfl) dX4_write_4 ⟨Nat.le_of_ble_eq_true rfl, Nat.le_of_ble_eq_true rfl⟩ (fun r1 σ2 hr1 hσ2 => ?_)
  refine s_iconst hC dX4_write_7 ?_
  refine s_icmp_eq (tgt := 14) hC dX4_write_8 (by decide) hr1 (inR_c _ rfl) ?_ ?_
  · refine s_aload_n hC dX4_write_14 rfl 0 rfl ?_
    refine s_get hC hK (fun H h => ((hV.1 σ2 B nb) H h).x) (by decide) o_X rfl q_w_X4 1 (by decide) q_f_X4_19 rfl dX4_write_15 ?_
    refine s_aload_n hC dX4_write_18 rfl 0 rfl ?_
    refine s_get hC hK (fun H h => ((hV.1 σ2 B nb) H h).x) (by decide) o_X rfl q_w_X4 3 (by decide) q_f_X4_30 rfl dX4_write_19 ?_
    refine u_gk (hσ2 0 3) (fun q3 hq3 hq3r => ?_)
    refine u_up3 (As := [.ref (ad x y0 q3 + 0)]) (rest := []) (a := x + 6) (mc := 98) (ms := 3960) hC hKA 1 (m_X1_record h5 hV hσ2 hB hn hq3 hq3r) (fun _ h => h) rfl (cb_of hC 1 q_c_yX1_record q_i_X1 q_m_X4_44 rfl rfl dd_yX1_record ⟨Nat.le_of_ble_eq_true rfl, Nat.le_of_ble_eq_true rfl⟩) q_i_yX1_record q_x_yX1_record (s_recv hK (fun H h => ((hV.1 σ2 B nb) H h).x) (by decide) o_Hi rfl) rfl (Nat.le_of_ble_eq_true rfl) dX4_write_22 ⟨Nat.le_of_ble_eq_true rfl, Nat.le_of_ble_eq_true rfl⟩ (fun σ4 B5 N6 hσ4 hB5 hN6 => ?_)
    refine s_iconst hC dX4_write_25 ?_
    refine s_istore_n (L' := [(1, vI 0), (0, .ref (x + 0))]) hC dX4_write_26 rfl (by decide) rfl ?_
    refine s_sub (L' := [(0, .ref (x + 0)), (1, vI 0)]) [1, 0] rfl ?_
    refine u_jp_IT (V := V) 98 3960 52 (fun x8 => [(0, .ref (x + 0)), (1, vI x8)]) (fun x8 => []) (fun x8 σ9 B10 N11 hx8 hσ9 hB10 hN11 => ?_) (fun j7 hj7 => ?_)
    · refine s_aload_n hC dX4_write_52 rfl 0 rfl ?_
      refine s_get hC hK (fun H h => ((hV.1 σ9 B10 N11) H h).x) (by decide) o_X rfl q_w_X4 0 (by decide) q_f_X4_12 rfl dX4_write_53 ?_
      refine s_iconst hC dX4_write_56 ?_
      refine s_putP (J := fun σ => V σ B10 N11) (ty := .int) hC hK hV.wx (fun _ h => Rx_x h) hσ9 (inR_c _ rfl) (by decide) o_PadX rfl q_w_X2 tyX2_ok nmX2 1 (by decide) q_f_X4_66 rfl (by decide +kernel) rfl rfl (fun _ => Nat.le_of_ble_eq_true rfl) u_PadX_1 dX4_write_57 (fun σ12 hσ12 => ?_)
      refine s_iload_n hC dX4_write_60 rfl 1 rfl ?_
      refine s_widen (k' := 98) (n' := 3960) (Nat.le_of_ble_eq_true rfl) (Nat.le_of_ble_eq_true rfl) ?_
      exact s_iret hC hr dX4_write_61 (fun H hH => ⟨rfl, hx8, hσ12, hB10, hN11, hH⟩)
    · refine u_lp_IT (V := V) (F := g_X4_write_L27 j7) 27 (fun x13 => [(0, .ref (x + 0)), (1, vI x13)]) (fun _ _ _ _ => rfl) (fun n ih27 x13 σ14 B15 N16 hx13 hσ14 hB15 hN16 => ?_) fu 0 σ4 B5 N6 (inR_c _ rfl) hσ4 hB5 hN6
      rw [g_X4_write_L27]
      refine s_iload_n hC dX4_write_27 rfl 1 rfl ?_
      refine s_aload_n hC dX4_write_28 rfl 0 rfl ?_
      refine s_get hC hK (fun H h => ((hV.1 σ14 B15 N16) H h).x) (by decide) o_X rfl q_w_X4 0 (by decide) q_f_X4_12 rfl dX4_write_29 ?_
      refine s_get hC hK (fun H h => ((hV.1 σ14 B15 N16) H h).x) (by decide) o_PadX rfl q_w_X2 2 (by decide) q_f_X4_59 rfl dX4_write_32 ?_
      refine s_icmp_ge (tgt := 52) hC dX4_write_35 (by decide) hx13 (hσ14 1 2) ?_ ?_
      · exact hj7 x13 σ14 B15 N16 hx13 hσ14 hB15 hN16
      · refine s_aload_n hC dX4_write_38 rfl 0 rfl ?_
        refine s_iload_n hC dX4_write_39 rfl 1 rfl ?_
        refine u_up4 (As := [vI x13]) (rest := []) (a := x + 0) (mc := 0) (ms := 0) hC hKA 1 (m_X4_writePadRow h5 hV hσ14 hB15 hN16 hx13) (fun _ h => h) rfl (cb_of hC 1 q_c_yX4_writePadRow q_i_X4 q_m_X4_62 rfl rfl dd_yX4_writePadRow ⟨Nat.le_of_ble_eq_true rfl, Nat.le_of_ble_eq_true rfl⟩) q_i_yX4_writePadRow q_x_yX4_writePadRow (s_recv hK (fun H h => ((hV.1 σ14 B15 N16) H h).x) (by decide) o_X rfl) rfl (Nat.le_of_ble_eq_true rfl) dX4_write_40 ⟨Nat.le_of_ble_eq_true rfl, Nat.le_of_ble_eq_true rfl⟩ (fun r20 σ17 B18 N19 hr20 hσ17 hB18 hN19 => ?_)
        refine s_if_eq (tgt := 52) hC dX4_write_43 (by decide) hr20 ?_ ?_
        · exact hj7 x13 σ17 B18 N19 hx13 hσ17 hB18 hN19
        · refine s_iincK hC dX4_write_46 1 rfl (by decide) (fun v21 => [(1, vI v21), (0, .ref (x + 0))]) (fun _ => rfl) (fun v21 hv21 => ?_)
          refine s_goto (tgt := 27) hC dX4_write_49 (by decide) ?_
          refine s_sub (L' := [(0, .ref (x + 0)), (1, vI v21)]) [1, 0] rfl ?_
          exact ih27 v21 σ17 B18 N19 hv21 hσ17 hB18 hN19
  · refine s_sub (L' := []) [] rfl ?_
    refine s_bipush hC dX4_write_11 (by decide) ?_
    refine s_widen (k' := 98) (n' := 3960) (Nat.le_of_ble_eq_true rfl) (Nat.le_of_ble_eq_true rfl) ?_
    exact s_iret hC hr dX4_write_13 (fun H hH => ⟨rfl, (inR_c _ rfl), hσ2, hB, hn, hH⟩)
set_option maxHeartbeats 4000000 in
set_option maxRecDepth 100000 in
theorem m_X4_append {l : Launch} {G : Gt} {x y0 nb : Nat} {σ : Blk} {B : Nat → Blk}  {V : Blk → (Nat → Blk) → Nat → Heap → Prop} (h5 : x + 205 ≤ y0) (hV : WV G x y0 V) (hσ : Rg σ) (hB : RgB B) (hn : 2 ≤ nb) {a1 : Int} (h1 : inR a1) {a2 : Int} (h2 : inR a2) : MetS l yX4_append cX4_append 6 (some .int) { frames := 6, cells := 98, slots := 3960, locals := 139 } G [.ref (x + 0), vI a1, vI a2] (V σ B nb) (poT V) (Rx x y0) 98 3960 (g_X4_append σ B nb a1 a2) := by
  refine met_of (by decide) (Nat.le_of_ble_eq_true rfl) ?_
  intro p e s m below meth c hC hKA hr _
  have hK := hKA.1
  unfold g_X4_append
  refine s_sub (L' := [(0, .ref (x + 0)), (1, vI a1), (2, vI a2)]) [0, 1, 2] rfl ?_
  refine s_aload_n hC dX4_append_0 rfl 0 rfl ?_
  refine s_get hC hK (fun H h => ((hV.1 σ B nb) H h).x) (by decide) o_X rfl q_w_X4 3 (by decide) q_f_X4_30 rfl dX4_append_1 ?_
  refine u_gk (hσ 0 3) (fun q1 hq1 hq1r => ?_)
  refine s_iload_n hC dX4_append_4 rfl 1 rfl ?_
  refine s_callV_R (As := [vI a1]) (rest := []) (a := ad x y0 q1 + 0) hC hKA 1 (m_X0_rowOf (b := ad x y0 q1) (fun H h => ((hV.1 σ B nb) H h).book hq1) (hB q1) h1) rfl (cb_of hC 1 q_c_yX0_rowOf q_i_X0 q_m_X4_108 rfl rfl dd_yX0_rowOf ⟨Nat.le_of_ble_eq_true rfl, Nat.le_of_ble_eq_true rfl⟩) q_i_yX0_rowOf q_x_yX0_rowOf (s_recv hK (fun H h => ((hV.1 σ B nb) H h).book hq1) (by decide) o_Book rfl) rfl (Nat.le_of_ble_eq_true rfl) dX4_append_5 ⟨Nat.le_of_ble_eq_true rfl, Nat.le_of_ble_eq_true rfl⟩ (fun r2 => ?_)
  refine s_astore_nR hC dX4_append_8 rfl (by decide) (fun z => [(3, z), (0, .ref (x + 0)), (1, vI a1), (2, vI a2)]) (fun _ => rfl) ?_
  refine s_aload_nR hC dX4_append_9 rfl 0 rfl ?_
  refine s_ifnonnullR (tgt := 15) hC dX4_append_10 (by decide) ?_ ?_
  · refine s_sub (L' := []) [] rfl ?_
    refine s_iconst hC dX4_append_13 ?_
    refine s_widen (k' := 98) (n' := 3960) (Nat.le_of_ble_eq_true rfl) (Nat.le_of_ble_eq_true rfl) ?_
    exact s_iret hC hr dX4_append_14 (fun H hH => ⟨rfl, (inR_c _ rfl), hσ, hB, hn, hH⟩)
  · refine s_gkR (fun q3 hq3 eq3 => ?_)
    subst eq3
    refine s_sub (L' := [(3, .ref (ad x y0 q1 + (8 + 3 * q3))), (0, .ref (x + 0)), (1, vI a1), (2, vI a2)]) [0, 1, 2, 3] rfl ?_
    refine s_sub (L' := [(0, .ref (x + 0)), (1, vI a1), (2, vI a2), (3, .ref (ad x y0 q1 + (8 + 3 * q3)))]) [1, 2, 3, 0] rfl ?_
    refine s_iload_n hC dX4_append_15 rfl 2 rfl ?_
    refine s_if_lt (tgt := 25) hC dX4_append_16 (by decide) h2 ?_ ?_
    · refine s_sub (L' := []) [] rfl ?_
      refine s_bipush hC dX4_append_25 (by decide) ?_
      refine s_widen (k' := 98) (n' := 3960) (Nat.le_of_ble_eq_true rfl) (Nat.le_of_ble_eq_true rfl) ?_
      exact s_iret hC hr dX4_append_27 (fun H hH => ⟨rfl, (inR_c _ rfl), hσ, hB, hn, hH⟩)
    · refine s_iload_n hC dX4_append_19 rfl 2 rfl ?_
      refine s_bipush hC dX4_append_20 (by decide) ?_
      refine s_icmp_lt (tgt := 28) hC dX4_append_22 (by decide) h2 (inR_c _ rfl) ?_ ?_
      · refine s_aload_n hC dX4_append_28 rfl 3 rfl ?_
        refine s_get (b := ad x y0 q1) hC hK (fun H h => ((hV.1 σ B nb) H h).book hq1) (by omega) (o_Row (q := q3)) rfl q_w_X7 1 (by decide) q_f_X4_90 rfl dX4_append_29 ?_
        refine s_nm ((hB q1 (8 + 3 * q3) 1)) (fun v4 hv4 => ?_)
        refine s_istore (L' := [(4, vI v4), (0, .ref (x + 0)), (1, vI a1), (2, vI a2), (3, .ref (ad x y0 q1 + (8 + 3 * q3)))]) hC dX4_append_32 (by decide) rfl ?_
        refine s_iload hC dX4_append_34 0 rfl ?_
        refine s_bipush hC dX4_append_36 (by decide) ?_
        refine s_icmp_lt (tgt := 44) hC dX4_append_38 (by decide) hv4 (inR_c _ rfl) ?_ ?_
        · refine s_sub (L' := [(0, .ref (x + 0)), (1, vI a1), (2, vI a2), (4, vI v4)]) [1, 2, 3, 0] rfl ?_
          refine s_aload_n hC dX4_append_44 rfl 0 rfl ?_
          refine s_get hC hK (fun H h => ((hV.1 σ B nb) H h).x) (by decide) o_X rfl q_w_X4 4 (by decide) q_f_X4_34 rfl dX4_append_45 ?_
          refine u_gk (hσ 0 4) (fun q5 hq5 hq5r => ?_)
          refine s_aload_n hC dX4_append_48 rfl 0 rfl ?_
          refine s_get hC hK (fun H h => ((hV.1 σ B nb) H h).x) (by decide) o_X rfl q_w_X4 3 (by decide) q_f_X4_30 rfl dX4_append_49 ?_
          refine u_gk (hσ 0 3) (fun q6 hq6 hq6r => ?_)
          refine s_ne (fun hne52 => ?_)
          refine u_callU (As := [.ref (ad x y0 q6 + 0)]) (rest := []) (q := q5) (off := 0) hC hKA (fun _ h => h) h5 hB 1 (m_X0_copyFrom (b := ad x y0 q5) (J := fun β => V σ (ub B q5 β) nb) (hV.wb hq5) (hB q5) (fun β H h => by have h9 := (hV.1 _ _ _ _ h).book hq6; have e9 : ub B q5 β q6 = B q6 := if_neg (fun z => hne52 z.symm); rw [e9] at h9; exact h9) (hB q6)) rfl (cb_of hC 1 q_c_yX0_copyFrom q_i_X0 q_m_X4_69 rfl rfl dd_yX0_copyFrom ⟨Nat.le_of_ble_eq_true rfl, Nat.le_of_ble_eq_true rfl⟩) q_i_yX0_copyFrom q_x_yX0_copyFrom (s_recv hK (fun H h => ((hV.1 σ B nb) H h).book hq5) (by decide) o_Book rfl) rfl (Nat.le_of_ble_eq_true rfl) dX4_append_52 ⟨Nat.le_of_ble_eq_true rfl, Nat.le_of_ble_eq_true rfl⟩ (fun B7 hB7 => ?_)
          refine s_aload_n hC dX4_append_55 rfl 0 rfl ?_
          refine s_get hC hK (fun H h => ((hV.1 σ B7 nb) H h).x) (by decide) o_X rfl q_w_X4 4 (by decide) q_f_X4_34 rfl dX4_append_56 ?_
          refine u_gk (hσ 0 4) (fun q8 hq8 hq8r => ?_)
          refine s_iload_n hC dX4_append_59 rfl 1 rfl ?_
          refine s_iload hC dX4_append_60 3 rfl ?_
          refine s_iconst hC dX4_append_62 ?_
          refine s_iadd hC dX4_append_63 ?_
          refine s_ck0 (fun v9 hv9 => ?_)
          refine u_callV (As := [vI a1, vI v9]) (rest := []) (q := q8) (off := 0) hC hKA (fun _ h => h) h5 hB7 2 (m_X0_layRow (b := ad x y0 q8) (J := fun β => V σ (ub B7 q8 β) nb) (hV.wb hq8) (hB7 q8) h1 hv9) rfl (cb_of hC 2 q_c_yX0_layRow q_i_X0 q_m_X4_83 rfl rfl dd_yX0_layRow ⟨Nat.le_of_ble_eq_true rfl, Nat.le_of_ble_eq_true rfl⟩) q_i_yX0_layRow q_x_yX0_layRow (s_recv hK (fun H h => ((hV.1 σ B7 nb) H h).book hq8) (by decide) o_Book rfl) rfl (Nat.le_of_ble_eq_true rfl) dX4_append_64 ⟨Nat.le_of_ble_eq_true rfl, Nat.le_of_ble_eq_true rfl⟩ (fun r11 B10 hB10 => ?_)
          refine s_astoreR hC dX4_append_67 (by decide) (fun z => [(5, z), (0, .ref (x + 0)), (1, vI a1), (2, vI a2), (4, vI v4)]) (fun _ => rfl) ?_
          refine s_aloadR hC dX4_append_69 0 rfl ?_
          refine s_ifnonnullR (tgt := 77) hC dX4_append_71 (by decide) ?_ ?_
          · refine s_sub (L' := []) [] rfl ?_
            refine s_bipush hC dX4_append_74 (by decide) ?_
            refine s_widen (k' := 98) (n' := 3960) (Nat.le_of_ble_eq_true rfl) (Nat.le_of_ble_eq_true rfl) ?_
            exact s_iret hC hr dX4_append_76 (fun H hH => ⟨rfl, (inR_c _ rfl), hσ, hB10, hn, hH⟩)
          · refine s_gkR (fun q12 hq12 eq12 => ?_)
            subst eq12
            refine s_sub (L' := [(5, .ref (ad x y0 q8 + (8 + 3 * q12))), (0, .ref (x + 0)), (1, vI a1), (2, vI a2), (4, vI v4)]) [0, 1, 2, 3, 4] rfl ?_
            refine s_sub (L' := [(0, .ref (x + 0)), (2, vI a2), (4, vI v4), (5, .ref (ad x y0 q8 + (8 + 3 * q12)))]) [1, 3, 4, 0] rfl ?_
            refine s_aload hC dX4_append_77 3 rfl ?_
            refine s_get (b := ad x y0 q8) hC hK (fun H h => ((hV.1 σ B10 nb) H h).book hq8) (by omega) (o_Row (q := q12)) rfl q_w_X7 6 (by decide) q_f_X4_95 rfl dX4_append_79 ?_
            refine s_iload hC dX4_append_82 2 rfl ?_
            refine s_iload_n hC dX4_append_84 rfl 1 rfl ?_
            refine u_callSU (As := [.ref (ad x y0 q8 + (10 + 3 * q12)), vI v4, vI a2]) (rest := []) (q := q8) hC hKA (fun _ h => h) h5 hB10 3 (m_X4_store (b := ad x y0 q8) (J := fun β => V σ (ub B10 q8 β) nb) (hV.wb hq8) (hB10 q8) (by omega) (a_Text (q := q12)) hv4 h2) rfl (cb_of hC 3 q_c_yX4_store q_i_X4 q_m_X4_101 rfl rfl dd_yX4_store ⟨Nat.le_of_ble_eq_true rfl, Nat.le_of_ble_eq_true rfl⟩) q_s_yX4_store rfl (Nat.le_of_ble_eq_true rfl) dX4_append_85 ⟨Nat.le_of_ble_eq_true rfl, Nat.le_of_ble_eq_true rfl⟩ (fun B13 hB13 => ?_)
            refine s_aload_n hC dX4_append_88 rfl 0 rfl ?_
            refine s_get hC hK (fun H h => ((hV.1 σ B13 nb) H h).x) (by decide) o_X rfl q_w_X4 1 (by decide) q_f_X4_19 rfl dX4_append_89 ?_
            refine s_aload_n hC dX4_append_92 rfl 0 rfl ?_
            refine s_get hC hK (fun H h => ((hV.1 σ B13 nb) H h).x) (by decide) o_X rfl q_w_X4 3 (by decide) q_f_X4_30 rfl dX4_append_93 ?_
            refine u_gk (hσ 0 3) (fun q14 hq14 hq14r => ?_)
            refine u_up3 (As := [.ref (ad x y0 q14 + 0)]) (rest := []) (a := x + 6) (mc := 98) (ms := 3960) hC hKA 1 (m_X1_record h5 hV hσ hB13 hn hq14 hq14r) (fun _ h => h) rfl (cb_of hC 1 q_c_yX1_record q_i_X1 q_m_X4_44 rfl rfl dd_yX1_record ⟨Nat.le_of_ble_eq_true rfl, Nat.le_of_ble_eq_true rfl⟩) q_i_yX1_record q_x_yX1_record (s_recv hK (fun H h => ((hV.1 σ B13 nb) H h).x) (by decide) o_Hi rfl) rfl (Nat.le_of_ble_eq_true rfl) dX4_append_96 ⟨Nat.le_of_ble_eq_true rfl, Nat.le_of_ble_eq_true rfl⟩ (fun σ15 B16 N17 hσ15 hB16 hN17 => ?_)
            refine s_aload_n hC dX4_append_99 rfl 0 rfl ?_
            refine u_up3 (As := []) (rest := []) (a := x + 0) (mc := 0) (ms := 0) hC hKA 0 (m_X4_takeTrial h5 hV hσ15 hB16 hN17) (fun _ h => h) rfl (cb_of hC 0 q_c_yX4_takeTrial q_i_X4 q_m_X4_105 rfl rfl dd_yX4_takeTrial ⟨Nat.le_of_ble_eq_true rfl, Nat.le_of_ble_eq_true rfl⟩) q_i_yX4_takeTrial q_x_yX4_takeTrial (s_recv hK (fun H h => ((hV.1 σ15 B16 N17) H h).x) (by decide) o_X rfl) rfl (Nat.le_of_ble_eq_true rfl) dX4_append_100 ⟨Nat.le_of_ble_eq_true rfl, Nat.le_of_ble_eq_true rfl⟩ (fun σ18 B19 N20 hσ18 hB19 hN20 => ?_)
            refine s_iload hC dX4_append_103 2 rfl ?_
            refine s_iconst hC dX4_append_105 ?_
            refine s_iadd hC dX4_append_106 ?_
            refine s_ck0 (fun v21 hv21 => ?_)
            refine s_widen (k' := 98) (n' := 3960) (Nat.le_of_ble_eq_true rfl) (Nat.le_of_ble_eq_true rfl) ?_
            exact s_iret hC hr dX4_append_107 (fun H hH => ⟨rfl, hv21, hσ18, hB19, hN20, hH⟩)
        · refine s_sub (L' := []) [] rfl ?_
          refine s_bipush hC dX4_append_41 (by decide) ?_
          refine s_widen (k' := 98) (n' := 3960) (Nat.le_of_ble_eq_true rfl) (Nat.le_of_ble_eq_true rfl) ?_
          exact s_iret hC hr dX4_append_43 (fun H hH => ⟨rfl, (inR_c _ rfl), hσ, hB, hn, hH⟩)
      · refine s_sub (L' := []) [] rfl ?_
        refine s_bipush hC dX4_append_25 (by decide) ?_
        refine s_widen (k' := 98) (n' := 3960) (Nat.le_of_ble_eq_true rfl) (Nat.le_of_ble_eq_true rfl) ?_
        exact s_iret hC hr dX4_append_27 (fun H hH => ⟨rfl, (inR_c _ rfl), hσ, hB, hn, hH⟩)
set_option maxHeartbeats 4000000 in
set_option maxRecDepth 100000 in
theorem m_X4_delete {l : Launch} {G : Gt} {x y0 nb : Nat} {σ : Blk} {B : Nat → Blk}  {V : Blk → (Nat → Blk) → Nat → Heap → Prop} (h5 : x + 205 ≤ y0) (hV : WV G x y0 V) (hσ : Rg σ) (hB : RgB B) (hn : 2 ≤ nb) {a1 : Int} (h1 : inR a1) : MetS l yX4_delete cX4_delete 4 (some .int) { frames := 4, cells := 98, slots := 3960, locals := 111 } G [.ref (x + 0), vI a1] (V σ B nb) (poT V) (Rx x y0) 98 3960 (g_X4_delete σ B nb a1) := by
  refine met_of (by decide) (Nat.le_of_ble_eq_true rfl) ?_
  intro p e s m below meth c hC hKA hr _
  have hK := hKA.1
  unfold g_X4_delete
  refine s_sub (L' := [(0, .ref (x + 0)), (1, vI a1)]) [0, 1] rfl ?_
  refine s_aload_n hC dX4_delete_0 rfl 0 rfl ?_
  refine s_get hC hK (fun H h => ((hV.1 σ B nb) H h).x) (by decide) o_X rfl q_w_X4 3 (by decide) q_f_X4_30 rfl dX4_delete_1 ?_
  refine u_gk (hσ 0 3) (fun q1 hq1 hq1r => ?_)
  refine s_iload_n hC dX4_delete_4 rfl 1 rfl ?_
  refine s_callV_R (As := [vI a1]) (rest := []) (a := ad x y0 q1 + 0) hC hKA 1 (m_X0_rowOf (b := ad x y0 q1) (fun H h => ((hV.1 σ B nb) H h).book hq1) (hB q1) h1) rfl (cb_of hC 1 q_c_yX0_rowOf q_i_X0 q_m_X4_108 rfl rfl dd_yX0_rowOf ⟨Nat.le_of_ble_eq_true rfl, Nat.le_of_ble_eq_true rfl⟩) q_i_yX0_rowOf q_x_yX0_rowOf (s_recv hK (fun H h => ((hV.1 σ B nb) H h).book hq1) (by decide) o_Book rfl) rfl (Nat.le_of_ble_eq_true rfl) dX4_delete_5 ⟨Nat.le_of_ble_eq_true rfl, Nat.le_of_ble_eq_true rfl⟩ (fun r2 => ?_)
  refine s_astore_nR hC dX4_delete_8 rfl (by decide) (fun z => [(2, z), (0, .ref (x + 0)), (1, vI a1)]) (fun _ => rfl) ?_
  refine s_aload_nR hC dX4_delete_9 rfl 0 rfl ?_
  refine s_ifnonnullR (tgt := 15) hC dX4_delete_10 (by decide) ?_ ?_
  · refine s_sub (L' := []) [] rfl ?_
    refine s_iconst hC dX4_delete_13 ?_
    refine s_widen (k' := 98) (n' := 3960) (Nat.le_of_ble_eq_true rfl) (Nat.le_of_ble_eq_true rfl) ?_
    exact s_iret hC hr dX4_delete_14 (fun H hH => ⟨rfl, (inR_c _ rfl), hσ, hB, hn, hH⟩)
  · refine s_gkR (fun q3 hq3 eq3 => ?_)
    subst eq3
    refine s_sub (L' := [(2, .ref (ad x y0 q1 + (8 + 3 * q3))), (0, .ref (x + 0)), (1, vI a1)]) [0, 1, 2] rfl ?_
    refine s_sub (L' := [(0, .ref (x + 0)), (2, .ref (ad x y0 q1 + (8 + 3 * q3)))]) [1, 0] rfl ?_
    refine s_aload_n hC dX4_delete_15 rfl 0 rfl ?_
    refine s_get hC hK (fun H h => ((hV.1 σ B nb) H h).x) (by decide) o_X rfl q_w_X4 1 (by decide) q_f_X4_19 rfl dX4_delete_16 ?_
    refine s_aload_n hC dX4_delete_19 rfl 0 rfl ?_
    refine s_get hC hK (fun H h => ((hV.1 σ B nb) H h).x) (by decide) o_X rfl q_w_X4 3 (by decide) q_f_X4_30 rfl dX4_delete_20 ?_
    refine u_gk (hσ 0 3) (fun q4 hq4 hq4r => ?_)
    refine u_up3 (As := [.ref (ad x y0 q4 + 0)]) (rest := []) (a := x + 6) (mc := 98) (ms := 3960) hC hKA 1 (m_X1_record h5 hV hσ hB hn hq4 hq4r) (fun _ h => h) rfl (cb_of hC 1 q_c_yX1_record q_i_X1 q_m_X4_44 rfl rfl dd_yX1_record ⟨Nat.le_of_ble_eq_true rfl, Nat.le_of_ble_eq_true rfl⟩) q_i_yX1_record q_x_yX1_record (s_recv hK (fun H h => ((hV.1 σ B nb) H h).x) (by decide) o_Hi rfl) rfl (Nat.le_of_ble_eq_true rfl) dX4_delete_23 ⟨Nat.le_of_ble_eq_true rfl, Nat.le_of_ble_eq_true rfl⟩ (fun σ5 B6 N7 hσ5 hB6 hN7 => ?_)
    refine s_aload_n hC dX4_delete_26 rfl 0 rfl ?_
    refine s_get hC hK (fun H h => ((hV.1 σ5 B6 N7) H h).x) (by decide) o_X rfl q_w_X4 3 (by decide) q_f_X4_30 rfl dX4_delete_27 ?_
    refine u_gk (hσ5 0 3) (fun q8 hq8 hq8r => ?_)
    refine s_aload_n hC dX4_delete_30 rfl 1 rfl ?_
    refine s_eqn (fun e31 => ?_)
    subst e31
    have hq1 := hq8
    refine s_callV_P (As := [.ref (ad x y0 q1 + (8 + 3 * q3))]) (rest := []) (a := ad x y0 q1 + 0) hC hKA 1 (m_X0_cellsOf (b := ad x y0 q1) (fun H h => ((hV.1 σ5 B6 N7) H h).book hq1) (hB6 q1) hq3) rfl (cb_of hC 1 q_c_yX0_cellsOf q_i_X0 q_m_X4_112 rfl rfl dd_yX0_cellsOf ⟨Nat.le_of_ble_eq_true rfl, Nat.le_of_ble_eq_true rfl⟩) q_i_yX0_cellsOf q_x_yX0_cellsOf (s_recv hK (fun H h => ((hV.1 σ5 B6 N7) H h).book hq1) (by decide) o_Book rfl) rfl (Nat.le_of_ble_eq_true rfl) dX4_delete_31 ⟨Nat.le_of_ble_eq_true rfl, Nat.le_of_ble_eq_true rfl⟩ (fun r9 hr9 => ?_)
    refine s_istore_n (L' := [(3, vI r9), (0, .ref (x + 0)), (2, .ref (ad x y0 q1 + (8 + 3 * q3)))]) hC dX4_delete_34 rfl (by decide) rfl ?_
    refine s_aload_n hC dX4_delete_35 rfl 1 rfl ?_
    refine s_get hC hK (fun H h => ((hV.1 σ5 B6 N7) H h).x) (by decide) o_X rfl q_w_X4 3 (by decide) q_f_X4_30 rfl dX4_delete_36 ?_
    refine u_gk (hσ5 0 3) (fun q10 hq10 hq10r => ?_)
    refine s_aload_n hC dX4_delete_39 rfl 2 rfl ?_
    refine s_eqn (fun e40 => ?_)
    subst e40
    have hq1 := hq10
    refine u_callU (As := [.ref (ad x y0 q1 + (8 + 3 * q3))]) (rest := []) (q := q1) (off := 0) hC hKA (fun _ h => h) h5 hB6 1 (m_X0_removeRow (b := ad x y0 q1) (J := fun β => V σ5 (ub B6 q1 β) N7) (hV.wb hq1) (hB6 q1) hq3) rfl (cb_of hC 1 q_c_yX0_removeRow q_i_X0 q_m_X4_116 rfl rfl dd_yX0_removeRow ⟨Nat.le_of_ble_eq_true rfl, Nat.le_of_ble_eq_true rfl⟩) q_i_yX0_removeRow q_x_yX0_removeRow (s_recv hK (fun H h => ((hV.1 σ5 B6 N7) H h).book hq1) (by decide) o_Book rfl) rfl (Nat.le_of_ble_eq_true rfl) dX4_delete_40 ⟨Nat.le_of_ble_eq_true rfl, Nat.le_of_ble_eq_true rfl⟩ (fun B11 hB11 => ?_)
    refine s_iload_n hC dX4_delete_43 rfl 0 rfl ?_
    refine s_widen (k' := 98) (n' := 3960) (Nat.le_of_ble_eq_true rfl) (Nat.le_of_ble_eq_true rfl) ?_
    exact s_iret hC hr dX4_delete_44 (fun H hH => ⟨rfl, hr9, hσ5, hB11, hN7, hH⟩)
set_option maxHeartbeats 4000000 in
set_option maxRecDepth 100000 in
theorem m_X4_tryPacking {l : Launch} {G : Gt} {x y0 nb : Nat} {σ : Blk} {B : Nat → Blk}  {V : Blk → (Nat → Blk) → Nat → Heap → Prop} (h5 : x + 205 ≤ y0) (hV : WV G x y0 V) (hσ : Rg σ) (hB : RgB B) (hn : 2 ≤ nb) {a1 : Int} (h1 : inR a1) : MetS l yX4_tryPacking cX4_tryPacking 2 (some .boolean) { frames := 6, cells := 0, slots := 0, locals := 137 } G [.ref (x + 0), vI a1] (V σ B nb) (poT V) (Rx x y0) 0 0 (g_X4_tryPacking σ B nb a1) := by
  refine met_of (by decide) (Nat.le_of_ble_eq_true rfl) ?_
  intro p e s m below meth c hC hKA hr _
  have hK := hKA.1
  unfold g_X4_tryPacking
  refine s_sub (L' := [(0, .ref (x + 0)), (1, vI a1)]) [0, 1] rfl ?_
  refine s_aload_n hC dX4_tryPacking_0 rfl 0 rfl ?_
  refine s_get hC hK (fun H h => ((hV.1 σ B nb) H h).x) (by decide) o_X rfl q_w_X4 4 (by decide) q_f_X4_34 rfl dX4_tryPacking_1 ?_
  refine u_gk (hσ 0 4) (fun q1 hq1 hq1r => ?_)
  refine s_aload_n hC dX4_tryPacking_4 rfl 0 rfl ?_
  refine s_get hC hK (fun H h => ((hV.1 σ B nb) H h).x) (by decide) o_X rfl q_w_X4 3 (by decide) q_f_X4_30 rfl dX4_tryPacking_5 ?_
  refine u_gk (hσ 0 3) (fun q2 hq2 hq2r => ?_)
  refine s_ne (fun hne8 => ?_)
  refine u_callU (As := [.ref (ad x y0 q2 + 0)]) (rest := []) (q := q1) (off := 0) hC hKA (fun _ h => h) h5 hB 1 (m_X0_copyFrom (b := ad x y0 q1) (J := fun β => V σ (ub B q1 β) nb) (hV.wb hq1) (hB q1) (fun β H h => by have h9 := (hV.1 _ _ _ _ h).book hq2; have e9 : ub B q1 β q2 = B q2 := if_neg (fun z => hne8 z.symm); rw [e9] at h9; exact h9) (hB q2)) rfl (cb_of hC 1 q_c_yX0_copyFrom q_i_X0 q_m_X4_69 rfl rfl dd_yX0_copyFrom ⟨Nat.le_of_ble_eq_true rfl, Nat.le_of_ble_eq_true rfl⟩) q_i_yX0_copyFrom q_x_yX0_copyFrom (s_recv hK (fun H h => ((hV.1 σ B nb) H h).book hq1) (by decide) o_Book rfl) rfl (Nat.le_of_ble_eq_true rfl) dX4_tryPacking_8 ⟨Nat.le_of_ble_eq_true rfl, Nat.le_of_ble_eq_true rfl⟩ (fun B3 hB3 => ?_)
  refine s_aload_n hC dX4_tryPacking_11 rfl 0 rfl ?_
  refine s_get hC hK (fun H h => ((hV.1 σ B3 nb) H h).x) (by decide) o_X rfl q_w_X4 4 (by decide) q_f_X4_34 rfl dX4_tryPacking_12 ?_
  refine u_gk (hσ 0 4) (fun q4 hq4 hq4r => ?_)
  refine s_iload_n hC dX4_tryPacking_15 rfl 1 rfl ?_
  refine u_putB hC hK hV (fun _ h => h) h5 hB3 hq4 h1 (f := 0) (by decide) q_f_X4_48 rfl (by decide +kernel) (fun _ => Nat.le_of_ble_eq_true rfl) u_Book_0 dX4_tryPacking_16 (fun B5 hB5 => ?_)
  refine s_aload_n hC dX4_tryPacking_19 rfl 0 rfl ?_
  refine s_get hC hK (fun H h => ((hV.1 σ B5 nb) H h).x) (by decide) o_X rfl q_w_X4 4 (by decide) q_f_X4_34 rfl dX4_tryPacking_20 ?_
  refine u_gk (hσ 0 4) (fun q6 hq6 hq6r => ?_)
  refine u_callW (As := []) (rest := []) (q := q6) (off := 0) hC hKA (fun _ h => h) h5 hB5 0 (m_X0_packAll (b := ad x y0 q6) (J := fun β => V σ (ub B5 q6 β) nb) (hV.wb hq6) (hB5 q6)) rfl (cb_of hC 0 q_c_yX0_packAll q_i_X0 q_m_X4_132 rfl rfl dd_yX0_packAll ⟨Nat.le_of_ble_eq_true rfl, Nat.le_of_ble_eq_true rfl⟩) q_i_yX0_packAll q_x_yX0_packAll (s_recv hK (fun H h => ((hV.1 σ B5 nb) H h).book hq6) (by decide) o_Book rfl) rfl (Nat.le_of_ble_eq_true rfl) dX4_tryPacking_23 ⟨Nat.le_of_ble_eq_true rfl, Nat.le_of_ble_eq_true rfl⟩ (fun r8 B7 hr8 hB7 => ?_)
  refine s_ckB (fun z9 => ?_)
  refine s_widen (k' := 0) (n' := 0) (Nat.le_of_ble_eq_true rfl) (Nat.le_of_ble_eq_true rfl) ?_
  exact s_zret hC hr z9 dX4_tryPacking_26 (fun H hH => ⟨rfl, hr8, hσ, hB7, hn, hH⟩)
set_option maxHeartbeats 4000000 in
set_option maxRecDepth 100000 in
theorem m_X4_pack {l : Launch} {G : Gt} {x y0 nb : Nat} {σ : Blk} {B : Nat → Blk}  {V : Blk → (Nat → Blk) → Nat → Heap → Prop} (h5 : x + 205 ≤ y0) (hV : WV G x y0 V) (hσ : Rg σ) (hB : RgB B) (hn : 2 ≤ nb)  : MetS l yX4_pack cX4_pack 1 (some .int) { frames := 7, cells := 98, slots := 3960, locals := 158 } G [.ref (x + 0)] (V σ B nb) (poT V) (Rx x y0) 98 3960 (g_X4_pack σ B nb) := by
  refine met_of (by decide) (Nat.le_of_ble_eq_true rfl) ?_
  intro p e s m below meth c hC hKA hr _
  have hK := hKA.1
  unfold g_X4_pack
  refine s_sub (L' := [(0, .ref (x + 0))]) [0] rfl ?_
  refine s_aload_n hC dX4_pack_0 rfl 0 rfl ?_
  refine s_aload_n hC dX4_pack_1 rfl 0 rfl ?_
  refine s_get hC hK (fun H h => ((hV.1 σ B nb) H h).x) (by decide) o_X rfl q_w_X4 3 (by decide) q_f_X4_30 rfl dX4_pack_2 ?_
  refine u_gk (hσ 0 3) (fun q1 hq1 hq1r => ?_)
  refine s_get (b := ad x y0 q1) hC hK (fun H h => ((hV.1 σ B nb) H h).book hq1) (by decide) o_Book rfl q_w_X0 0 (by decide) q_f_X4_48 rfl dX4_pack_5 ?_
  refine u_up4 (As := [vI (B q1 0 0)]) (rest := []) (a := x + 0) (mc := 0) (ms := 0) hC hKA 1 (m_X4_tryPacking h5 hV hσ hB hn (hB q1 0 0)) (fun _ h => h) rfl (cb_of hC 1 q_c_yX4_tryPacking q_i_X4 q_m_X4_120 rfl rfl dd_yX4_tryPacking ⟨Nat.le_of_ble_eq_true rfl, Nat.le_of_ble_eq_true rfl⟩) q_i_yX4_tryPacking q_x_yX4_tryPacking (s_recv hK (fun H h => ((hV.1 σ B nb) H h).x) (by decide) o_X rfl) rfl (Nat.le_of_ble_eq_true rfl) dX4_pack_8 ⟨Nat.le_of_ble_eq_true rfl, Nat.le_of_ble_eq_true rfl⟩ (fun r5 σ2 B3 N4 hr5 hσ2 hB3 hN4 => ?_)
  refine s_if_ne (tgt := 17) hC dX4_pack_11 (by decide) hr5 ?_ ?_
  · refine s_aload_n hC dX4_pack_17 rfl 0 rfl ?_
    refine s_get hC hK (fun H h => ((hV.1 σ2 B3 N4) H h).x) (by decide) o_X rfl q_w_X4 1 (by decide) q_f_X4_19 rfl dX4_pack_18 ?_
    refine s_aload_n hC dX4_pack_21 rfl 0 rfl ?_
    refine s_get hC hK (fun H h => ((hV.1 σ2 B3 N4) H h).x) (by decide) o_X rfl q_w_X4 3 (by decide) q_f_X4_30 rfl dX4_pack_22 ?_
    refine u_gk (hσ2 0 3) (fun q6 hq6 hq6r => ?_)
    refine u_up3 (As := [.ref (ad x y0 q6 + 0)]) (rest := []) (a := x + 6) (mc := 98) (ms := 3960) hC hKA 1 (m_X1_record h5 hV hσ2 hB3 hN4 hq6 hq6r) (fun _ h => h) rfl (cb_of hC 1 q_c_yX1_record q_i_X1 q_m_X4_44 rfl rfl dd_yX1_record ⟨Nat.le_of_ble_eq_true rfl, Nat.le_of_ble_eq_true rfl⟩) q_i_yX1_record q_x_yX1_record (s_recv hK (fun H h => ((hV.1 σ2 B3 N4) H h).x) (by decide) o_Hi rfl) rfl (Nat.le_of_ble_eq_true rfl) dX4_pack_25 ⟨Nat.le_of_ble_eq_true rfl, Nat.le_of_ble_eq_true rfl⟩ (fun σ7 B8 N9 hσ7 hB8 hN9 => ?_)
    refine s_aload_n hC dX4_pack_28 rfl 0 rfl ?_
    refine u_up3 (As := []) (rest := []) (a := x + 0) (mc := 0) (ms := 0) hC hKA 0 (m_X4_takeTrial h5 hV hσ7 hB8 hN9) (fun _ h => h) rfl (cb_of hC 0 q_c_yX4_takeTrial q_i_X4 q_m_X4_105 rfl rfl dd_yX4_takeTrial ⟨Nat.le_of_ble_eq_true rfl, Nat.le_of_ble_eq_true rfl⟩) q_i_yX4_takeTrial q_x_yX4_takeTrial (s_recv hK (fun H h => ((hV.1 σ7 B8 N9) H h).x) (by decide) o_X rfl) rfl (Nat.le_of_ble_eq_true rfl) dX4_pack_29 ⟨Nat.le_of_ble_eq_true rfl, Nat.le_of_ble_eq_true rfl⟩ (fun σ10 B11 N12 hσ10 hB11 hN12 => ?_)
    refine s_aload_n hC dX4_pack_32 rfl 0 rfl ?_
    refine s_get hC hK (fun H h => ((hV.1 σ10 B11 N12) H h).x) (by decide) o_X rfl q_w_X4 3 (by decide) q_f_X4_30 rfl dX4_pack_33 ?_
    refine u_gk (hσ10 0 3) (fun q13 hq13 hq13r => ?_)
    refine s_get (b := ad x y0 q13) hC hK (fun H h => ((hV.1 σ10 B11 N12) H h).book hq13) (by decide) o_Book rfl q_w_X0 3 (by decide) q_f_X4_123 rfl dX4_pack_36 ?_
    refine s_callV_P (As := []) (rest := []) (a := ad x y0 q13 + 1) hC hKA 0 (m_X3_pagesInUse (b := ad x y0 q13) (fun H h => ((hV.1 σ10 B11 N12) H h).book hq13) (hB11 q13)) rfl (cb_of hC 0 q_c_yX3_pagesInUse q_i_X3 q_m_X4_127 rfl rfl dd_yX3_pagesInUse ⟨Nat.le_of_ble_eq_true rfl, Nat.le_of_ble_eq_true rfl⟩) q_i_yX3_pagesInUse q_x_yX3_pagesInUse (s_recv hK (fun H h => ((hV.1 σ10 B11 N12) H h).book hq13) (by decide) o_Pages rfl) rfl (Nat.le_of_ble_eq_true rfl) dX4_pack_39 ⟨Nat.le_of_ble_eq_true rfl, Nat.le_of_ble_eq_true rfl⟩ (fun r14 hr14 => ?_)
    refine s_widen (k' := 98) (n' := 3960) (Nat.le_of_ble_eq_true rfl) (Nat.le_of_ble_eq_true rfl) ?_
    exact s_iret hC hr dX4_pack_42 (fun H hH => ⟨rfl, hr14, hσ10, hB11, hN12, hH⟩)
  · refine s_sub (L' := []) [] rfl ?_
    refine s_bipush hC dX4_pack_14 (by decide) ?_
    refine s_widen (k' := 98) (n' := 3960) (Nat.le_of_ble_eq_true rfl) (Nat.le_of_ble_eq_true rfl) ?_
    exact s_iret hC hr dX4_pack_16 (fun H hH => ⟨rfl, (inR_c _ rfl), hσ2, hB3, hN4, hH⟩)
set_option maxHeartbeats 4000000 in
set_option maxRecDepth 100000 in
theorem m_X4_row {l : Launch} {G : Gt} {x y0 nb : Nat} {σ : Blk} {B : Nat → Blk}  {I : Heap → Prop} (h5 : x + 205 ≤ y0) (hI : ∀ H, I H → WX G x y0 σ B nb H) (hσ : Rg σ) (hB : RgB B) {a1 : Int} (h1 : inR a1) {a2 : Int} (h2 : inR a2) : MetS l yX4_row cX4_row 4 (some .int) { frames := 2, cells := 0, slots := 0, locals := 45 } G [.ref (x + 0), vI a1, vI a2] I (poP I) (fun _ => False) 0 0 (g_X4_row σ B nb a1 a2) := by
  refine met_of (by decide) (Nat.le_of_ble_eq_true rfl) ?_
  intro p e s m below meth c hC hKA hr _
  have hK := hKA.1
  unfold g_X4_row
  refine s_sub (L' := [(0, .ref (x + 0)), (1, vI a1), (2, vI a2)]) [0, 1, 2] rfl ?_
  refine s_aload_n hC dX4_row_0 rfl 0 rfl ?_
  refine s_get hC hK (fun H h => (hI H h).x) (by decide) o_X rfl q_w_X4 3 (by decide) q_f_X4_30 rfl dX4_row_1 ?_
  refine u_gk (hσ 0 3) (fun q1 hq1 hq1r => ?_)
  refine s_iload_n hC dX4_row_4 rfl 1 rfl ?_
  refine s_callV_R (As := [vI a1]) (rest := []) (a := ad x y0 q1 + 0) hC hKA 1 (m_X0_rowOf (b := ad x y0 q1) (fun H h => (hI H h).book hq1) (hB q1) h1) rfl (cb_of hC 1 q_c_yX0_rowOf q_i_X0 q_m_X4_108 rfl rfl dd_yX0_rowOf ⟨Nat.le_of_ble_eq_true rfl, Nat.le_of_ble_eq_true rfl⟩) q_i_yX0_rowOf q_x_yX0_rowOf (s_recv hK (fun H h => (hI H h).book hq1) (by decide) o_Book rfl) rfl (Nat.le_of_ble_eq_true rfl) dX4_row_5 ⟨Nat.le_of_ble_eq_true rfl, Nat.le_of_ble_eq_true rfl⟩ (fun r2 => ?_)
  refine s_astore_nR hC dX4_row_8 rfl (by decide) (fun z => [(3, z), (0, .ref (x + 0)), (1, vI a1), (2, vI a2)]) (fun _ => rfl) ?_
  refine s_aload_nR hC dX4_row_9 rfl 0 rfl ?_
  refine s_ifnonnullR (tgt := 15) hC dX4_row_10 (by decide) ?_ ?_
  · refine s_sub (L' := []) [] rfl ?_
    refine s_iconst hC dX4_row_13 ?_
    exact s_iret hC hr dX4_row_14 (fun H hH => ⟨rfl, (inR_c _ rfl), hH⟩)
  · refine s_gkR (fun q3 hq3 eq3 => ?_)
    subst eq3
    refine s_sub (L' := [(3, .ref (ad x y0 q1 + (8 + 3 * q3))), (0, .ref (x + 0)), (1, vI a1), (2, vI a2)]) [0, 1, 2, 3] rfl ?_
    refine s_sub (L' := [(0, .ref (x + 0)), (2, vI a2), (3, .ref (ad x y0 q1 + (8 + 3 * q3)))]) [1, 3, 0] rfl ?_
    refine s_iload_n hC dX4_row_15 rfl 1 rfl ?_
    refine s_ite (fun hz => ?_) (fun hz0 => ?_)
    · refine s_tabIn (tgt := 72) hC 0 dX4_row_16 h2 hz (by decide) (by decide) rfl (by decide) ?_
      refine s_sub (L' := [(3, .ref (ad x y0 q1 + (8 + 3 * q3)))]) [2] rfl ?_
      refine s_aload_n hC dX4_row_72 rfl 0 rfl ?_
      refine s_get (b := ad x y0 q1) hC hK (fun H h => (hI H h).book hq1) (by omega) (o_Row (q := q3)) rfl q_w_X7 1 (by decide) q_f_X4_90 rfl dX4_row_73 ?_
      exact s_iret hC hr dX4_row_76 (fun H hH => ⟨rfl, (hB q1 (8 + 3 * q3) 1), hH⟩)
    · refine s_ite (fun hz => ?_) (fun hz1 => ?_)
      · refine s_tabIn (tgt := 77) hC 1 dX4_row_16 h2 hz (by decide) (by decide) rfl (by decide) ?_
        refine s_sub (L' := [(3, .ref (ad x y0 q1 + (8 + 3 * q3)))]) [2] rfl ?_
        refine s_aload_n hC dX4_row_77 rfl 0 rfl ?_
        refine s_get (b := ad x y0 q1) hC hK (fun H h => (hI H h).book hq1) (by omega) (o_Row (q := q3)) rfl q_w_X7 2 (by decide) q_f_X4_136 rfl dX4_row_78 ?_
        refine s_bipush hC dX4_row_81 (by decide) ?_
        refine s_idiv hC dX4_row_83 (hB q1 (8 + 3 * q3) 2) (inR_c _ rfl) (by decide) (fun v4 hv4 => ?_)
        exact s_iret hC hr dX4_row_84 (fun H hH => ⟨rfl, hv4, hH⟩)
      · refine s_ite (fun hz => ?_) (fun hz2 => ?_)
        · refine s_tabIn (tgt := 85) hC 2 dX4_row_16 h2 hz (by decide) (by decide) rfl (by decide) ?_
          refine s_sub (L' := [(3, .ref (ad x y0 q1 + (8 + 3 * q3)))]) [2] rfl ?_
          refine s_aload_n hC dX4_row_85 rfl 0 rfl ?_
          refine s_get (b := ad x y0 q1) hC hK (fun H h => (hI H h).book hq1) (by omega) (o_Row (q := q3)) rfl q_w_X7 2 (by decide) q_f_X4_136 rfl dX4_row_86 ?_
          refine s_bipush hC dX4_row_89 (by decide) ?_
          refine s_irem hC dX4_row_91 (hB q1 (8 + 3 * q3) 2) (inR_c _ rfl) (by decide) (fun v5 hv5 => ?_)
          exact s_iret hC hr dX4_row_92 (fun H hH => ⟨rfl, hv5, hH⟩)
        · refine s_ite (fun hz => ?_) (fun hz3 => ?_)
          · refine s_tabIn (tgt := 93) hC 3 dX4_row_16 h2 hz (by decide) (by decide) rfl (by decide) ?_
            refine s_sub (L' := [(3, .ref (ad x y0 q1 + (8 + 3 * q3)))]) [2] rfl ?_
            refine s_aload_n hC dX4_row_93 rfl 0 rfl ?_
            refine s_get (b := ad x y0 q1) hC hK (fun H h => (hI H h).book hq1) (by omega) (o_Row (q := q3)) rfl q_w_X7 3 (by decide) q_f_X4_139 rfl dX4_row_94 ?_
            refine s_bipush hC dX4_row_97 (by decide) ?_
            refine s_idiv hC dX4_row_99 (hB q1 (8 + 3 * q3) 3) (inR_c _ rfl) (by decide) (fun v6 hv6 => ?_)
            exact s_iret hC hr dX4_row_100 (fun H hH => ⟨rfl, hv6, hH⟩)
          · refine s_ite (fun hz => ?_) (fun hz4 => ?_)
            · refine s_tabIn (tgt := 101) hC 4 dX4_row_16 h2 hz (by decide) (by decide) rfl (by decide) ?_
              refine s_sub (L' := [(3, .ref (ad x y0 q1 + (8 + 3 * q3)))]) [2] rfl ?_
              refine s_aload_n hC dX4_row_101 rfl 0 rfl ?_
              refine s_get (b := ad x y0 q1) hC hK (fun H h => (hI H h).book hq1) (by omega) (o_Row (q := q3)) rfl q_w_X7 3 (by decide) q_f_X4_139 rfl dX4_row_102 ?_
              refine s_bipush hC dX4_row_105 (by decide) ?_
              refine s_irem hC dX4_row_107 (hB q1 (8 + 3 * q3) 3) (inR_c _ rfl) (by decide) (fun v7 hv7 => ?_)
              exact s_iret hC hr dX4_row_108 (fun H hH => ⟨rfl, hv7, hH⟩)
            · refine s_ite (fun hz => ?_) (fun hz5 => ?_)
              · refine s_tabIn (tgt := 109) hC 5 dX4_row_16 h2 hz (by decide) (by decide) rfl (by decide) ?_
                refine s_sub (L' := [(3, .ref (ad x y0 q1 + (8 + 3 * q3)))]) [2] rfl ?_
                refine s_aload_n hC dX4_row_109 rfl 0 rfl ?_
                refine s_callV_P (As := []) (rest := []) (a := ad x y0 q1 + (8 + 3 * q3)) hC hKA 0 (m_X7_hasMoved (b := ad x y0 q1) (fun H h => (hI H h).book hq1) (hB q1) hq3) rfl (cb_of hC 0 q_c_yX7_hasMoved q_i_X7 q_m_X4_142 rfl rfl dd_yX7_hasMoved ⟨Nat.le_of_ble_eq_true rfl, Nat.le_of_ble_eq_true rfl⟩) q_i_yX7_hasMoved q_x_yX7_hasMoved (s_recv hK (fun H h => (hI H h).book hq1) (by omega) (o_Row (q := q3)) rfl) rfl (Nat.le_of_ble_eq_true rfl) dX4_row_110 ⟨Nat.le_of_ble_eq_true rfl, Nat.le_of_ble_eq_true rfl⟩ (fun r8 hr8 => ?_)
                refine s_if_eq (tgt := 120) hC dX4_row_113 (by decide) hr8 ?_ ?_
                · refine s_sub (L' := []) [] rfl ?_
                  refine s_iconst hC dX4_row_120 ?_
                  exact s_iret hC hr dX4_row_121 (fun H hH => ⟨rfl, (inR_c _ rfl), hH⟩)
                · refine s_sub (L' := []) [] rfl ?_
                  refine s_iconst hC dX4_row_116 ?_
                  refine s_goto (tgt := 121) hC dX4_row_117 (by decide) ?_
                  exact s_iret hC hr dX4_row_121 (fun H hH => ⟨rfl, (inR_c _ rfl), hH⟩)
              · refine s_ite (fun hz => ?_) (fun hz6 => ?_)
                · refine s_tabIn (tgt := 122) hC 6 dX4_row_16 h2 hz (by decide) (by decide) rfl (by decide) ?_
                  refine s_sub (L' := [(0, .ref (x + 0)), (3, .ref (ad x y0 q1 + (8 + 3 * q3)))]) [0, 2] rfl ?_
                  refine s_aload_n hC dX4_row_122 rfl 0 rfl ?_
                  refine s_get hC hK (fun H h => (hI H h).x) (by decide) o_X rfl q_w_X4 3 (by decide) q_f_X4_30 rfl dX4_row_123 ?_
                  refine u_gk (hσ 0 3) (fun q9 hq9 hq9r => ?_)
                  refine s_get (b := ad x y0 q9) hC hK (fun H h => (hI H h).book hq9) (by decide) o_Book rfl q_w_X0 3 (by decide) q_f_X4_123 rfl dX4_row_126 ?_
                  refine s_get (b := ad x y0 q9) hC hK (fun H h => (hI H h).book hq9) (by decide) o_Pages rfl q_w_X3 2 (by decide) q_f_X4_145 rfl dX4_row_129 ?_
                  refine s_aload_n hC dX4_row_132 rfl 1 rfl ?_
                  refine s_get (b := ad x y0 q1) hC hK (fun H h => (hI H h).book hq1) (by omega) (o_Row (q := q3)) rfl q_w_X7 3 (by decide) q_f_X4_139 rfl dX4_row_133 ?_
                  refine s_callS_P (As := [.ref (ad x y0 q9 + 4), vI (B q1 (8 + 3 * q3) 3)]) (rest := []) hC hKA 2 (m_X4_at (b := ad x y0 q9) (fun H h => (hI H h).book hq9) (hB q9) (by decide) a_Book_4 (hB q1 (8 + 3 * q3) 3)) rfl (cb_of hC 2 q_c_yX4_at q_i_X4 q_m_X4_76 rfl rfl dd_yX4_at ⟨Nat.le_of_ble_eq_true rfl, Nat.le_of_ble_eq_true rfl⟩) q_s_yX4_at rfl (Nat.le_of_ble_eq_true rfl) dX4_row_136 ⟨Nat.le_of_ble_eq_true rfl, Nat.le_of_ble_eq_true rfl⟩ (fun r10 hr10 => ?_)
                  refine s_iconst hC dX4_row_139 ?_
                  refine s_isub hC dX4_row_140 ?_
                  refine s_ck0 (fun v11 hv11 => ?_)
                  exact s_iret hC hr dX4_row_141 (fun H hH => ⟨rfl, hv11, hH⟩)
                · refine s_ite (fun hz => ?_) (fun hz7 => ?_)
                  · refine s_tabIn (tgt := 142) hC 7 dX4_row_16 h2 hz (by decide) (by decide) rfl (by decide) ?_
                    refine s_sub (L' := [(3, .ref (ad x y0 q1 + (8 + 3 * q3)))]) [2] rfl ?_
                    refine s_aload_n hC dX4_row_142 rfl 0 rfl ?_
                    refine s_get (b := ad x y0 q1) hC hK (fun H h => (hI H h).book hq1) (by omega) (o_Row (q := q3)) rfl q_w_X7 4 (by decide) q_f_X4_148 rfl dX4_row_143 ?_
                    exact s_iret hC hr dX4_row_146 (fun H hH => ⟨rfl, (hB q1 (8 + 3 * q3) 4), hH⟩)
                  · refine s_ite (fun hz => ?_) (fun hz8 => ?_)
                    · refine s_tabIn (tgt := 147) hC 8 dX4_row_16 h2 hz (by decide) (by decide) rfl (by decide) ?_
                      refine s_sub (L' := [(3, .ref (ad x y0 q1 + (8 + 3 * q3)))]) [2] rfl ?_
                      refine s_aload_n hC dX4_row_147 rfl 0 rfl ?_
                      refine s_callV_P (As := []) (rest := []) (a := ad x y0 q1 + (8 + 3 * q3)) hC hKA 0 (m_X7_cost (b := ad x y0 q1) (fun H h => (hI H h).book hq1) (hB q1) hq3) rfl (cb_of hC 0 q_c_yX7_cost q_i_X7 q_m_X4_151 rfl rfl dd_yX7_cost ⟨Nat.le_of_ble_eq_true rfl, Nat.le_of_ble_eq_true rfl⟩) q_i_yX7_cost q_x_yX7_cost (s_recv hK (fun H h => (hI H h).book hq1) (by omega) (o_Row (q := q3)) rfl) rfl (Nat.le_of_ble_eq_true rfl) dX4_row_148 ⟨Nat.le_of_ble_eq_true rfl, Nat.le_of_ble_eq_true rfl⟩ (fun r12 hr12 => ?_)
                      exact s_iret hC hr dX4_row_151 (fun H hH => ⟨rfl, hr12, hH⟩)
                    · refine s_ite (fun hz => ?_) (fun hz9 => ?_)
                      · refine s_tabIn (tgt := 152) hC 9 dX4_row_16 h2 hz (by decide) (by decide) rfl (by decide) ?_
                        refine s_sub (L' := [(0, .ref (x + 0)), (3, .ref (ad x y0 q1 + (8 + 3 * q3)))]) [0, 2] rfl ?_
                        refine s_aload_n hC dX4_row_152 rfl 0 rfl ?_
                        refine s_get hC hK (fun H h => (hI H h).x) (by decide) o_X rfl q_w_X4 3 (by decide) q_f_X4_30 rfl dX4_row_153 ?_
                        refine u_gk (hσ 0 3) (fun q13 hq13 hq13r => ?_)
                        refine s_aload_n hC dX4_row_156 rfl 1 rfl ?_
                        refine s_eqn (fun e157 => ?_)
                        subst e157
                        have hq1 := hq13
                        refine s_callV_P (As := [.ref (ad x y0 q1 + (8 + 3 * q3))]) (rest := []) (a := ad x y0 q1 + 0) hC hKA 1 (m_X0_cellsOf (b := ad x y0 q1) (fun H h => (hI H h).book hq1) (hB q1) hq3) rfl (cb_of hC 1 q_c_yX0_cellsOf q_i_X0 q_m_X4_112 rfl rfl dd_yX0_cellsOf ⟨Nat.le_of_ble_eq_true rfl, Nat.le_of_ble_eq_true rfl⟩) q_i_yX0_cellsOf q_x_yX0_cellsOf (s_recv hK (fun H h => (hI H h).book hq1) (by decide) o_Book rfl) rfl (Nat.le_of_ble_eq_true rfl) dX4_row_157 ⟨Nat.le_of_ble_eq_true rfl, Nat.le_of_ble_eq_true rfl⟩ (fun r14 hr14 => ?_)
                        exact s_iret hC hr dX4_row_160 (fun H hH => ⟨rfl, hr14, hH⟩)
                      · refine s_tabOut (tgt := 161) hC dX4_row_16 h2 (by omega) (by decide) ?_
                        refine s_sub (L' := []) [] rfl ?_
                        refine s_bipush hC dX4_row_161 (by decide) ?_
                        exact s_iret hC hr dX4_row_163 (fun H hH => ⟨rfl, (inR_c _ rfl), hH⟩)
set_option maxHeartbeats 4000000 in
set_option maxRecDepth 100000 in
theorem m_X4_letter {l : Launch} {G : Gt} {x y0 nb : Nat} {σ : Blk} {B : Nat → Blk}  {I : Heap → Prop} (h5 : x + 205 ≤ y0) (hI : ∀ H, I H → WX G x y0 σ B nb H) (hσ : Rg σ) (hB : RgB B) {a1 : Int} (h1 : inR a1) {a2 : Int} (h2 : inR a2) : MetS l yX4_letter cX4_letter 4 (some .int) { frames := 2, cells := 0, slots := 0, locals := 43 } G [.ref (x + 0), vI a1, vI a2] I (poP I) (fun _ => False) 0 0 (g_X4_letter σ B nb a1 a2) := by
  refine met_of (by decide) (Nat.le_of_ble_eq_true rfl) ?_
  intro p e s m below meth c hC hKA hr _
  have hK := hKA.1
  unfold g_X4_letter
  refine s_sub (L' := [(0, .ref (x + 0)), (1, vI a1), (2, vI a2)]) [0, 1, 2] rfl ?_
  refine s_aload_n hC dX4_letter_0 rfl 0 rfl ?_
  refine s_get hC hK (fun H h => (hI H h).x) (by decide) o_X rfl q_w_X4 3 (by decide) q_f_X4_30 rfl dX4_letter_1 ?_
  refine u_gk (hσ 0 3) (fun q1 hq1 hq1r => ?_)
  refine s_iload_n hC dX4_letter_4 rfl 1 rfl ?_
  refine s_callV_R (As := [vI a1]) (rest := []) (a := ad x y0 q1 + 0) hC hKA 1 (m_X0_rowOf (b := ad x y0 q1) (fun H h => (hI H h).book hq1) (hB q1) h1) rfl (cb_of hC 1 q_c_yX0_rowOf q_i_X0 q_m_X4_108 rfl rfl dd_yX0_rowOf ⟨Nat.le_of_ble_eq_true rfl, Nat.le_of_ble_eq_true rfl⟩) q_i_yX0_rowOf q_x_yX0_rowOf (s_recv hK (fun H h => (hI H h).book hq1) (by decide) o_Book rfl) rfl (Nat.le_of_ble_eq_true rfl) dX4_letter_5 ⟨Nat.le_of_ble_eq_true rfl, Nat.le_of_ble_eq_true rfl⟩ (fun r2 => ?_)
  refine s_astore_nR hC dX4_letter_8 rfl (by decide) (fun z => [(3, z), (0, .ref (x + 0)), (1, vI a1), (2, vI a2)]) (fun _ => rfl) ?_
  refine s_aload_nR hC dX4_letter_9 rfl 0 rfl ?_
  refine s_ifnullR (tgt := 25) hC dX4_letter_10 (by decide) ?_ ?_
  · refine s_sub (L' := []) [] rfl ?_
    refine s_iconst hC dX4_letter_25 ?_
    exact s_iret hC hr dX4_letter_26 (fun H hH => ⟨rfl, (inR_c _ rfl), hH⟩)
  · refine s_gkR (fun q3 hq3 eq3 => ?_)
    subst eq3
    refine s_sub (L' := [(3, .ref (ad x y0 q1 + (8 + 3 * q3))), (0, .ref (x + 0)), (1, vI a1), (2, vI a2)]) [0, 1, 2, 3] rfl ?_
    refine s_sub (L' := [(2, vI a2), (3, .ref (ad x y0 q1 + (8 + 3 * q3)))]) [3, 0] rfl ?_
    refine s_iload_n hC dX4_letter_13 rfl 0 rfl ?_
    refine s_if_lt (tgt := 25) hC dX4_letter_14 (by decide) h2 ?_ ?_
    · refine s_sub (L' := []) [] rfl ?_
      refine s_iconst hC dX4_letter_25 ?_
      exact s_iret hC hr dX4_letter_26 (fun H hH => ⟨rfl, (inR_c _ rfl), hH⟩)
    · refine s_iload_n hC dX4_letter_17 rfl 0 rfl ?_
      refine s_aload_n hC dX4_letter_18 rfl 1 rfl ?_
      refine s_get (b := ad x y0 q1) hC hK (fun H h => (hI H h).book hq1) (by omega) (o_Row (q := q3)) rfl q_w_X7 1 (by decide) q_f_X4_90 rfl dX4_letter_19 ?_
      refine s_icmp_lt (tgt := 27) hC dX4_letter_22 (by decide) h2 (hB q1 (8 + 3 * q3) 1) ?_ ?_
      · refine s_aload_n hC dX4_letter_27 rfl 1 rfl ?_
        refine s_get (b := ad x y0 q1) hC hK (fun H h => (hI H h).book hq1) (by omega) (o_Row (q := q3)) rfl q_w_X7 6 (by decide) q_f_X4_95 rfl dX4_letter_28 ?_
        refine s_iload_n hC dX4_letter_31 rfl 0 rfl ?_
        refine s_callS_P (As := [.ref (ad x y0 q1 + (10 + 3 * q3)), vI a2]) (rest := []) hC hKA 2 (m_X4_at (b := ad x y0 q1) (fun H h => (hI H h).book hq1) (hB q1) (by omega) (a_Text (q := q3)) h2) rfl (cb_of hC 2 q_c_yX4_at q_i_X4 q_m_X4_76 rfl rfl dd_yX4_at ⟨Nat.le_of_ble_eq_true rfl, Nat.le_of_ble_eq_true rfl⟩) q_s_yX4_at rfl (Nat.le_of_ble_eq_true rfl) dX4_letter_32 ⟨Nat.le_of_ble_eq_true rfl, Nat.le_of_ble_eq_true rfl⟩ (fun r4 hr4 => ?_)
        exact s_iret hC hr dX4_letter_35 (fun H hH => ⟨rfl, hr4, hH⟩)
      · refine s_sub (L' := []) [] rfl ?_
        refine s_iconst hC dX4_letter_25 ?_
        exact s_iret hC hr dX4_letter_26 (fun H hH => ⟨rfl, (inR_c _ rfl), hH⟩)
set_option maxHeartbeats 4000000 in
set_option maxRecDepth 100000 in
theorem m_X4_piece {l : Launch} {G : Gt} {x y0 nb : Nat} {σ : Blk} {B : Nat → Blk}  {I : Heap → Prop} (h5 : x + 205 ≤ y0) (hI : ∀ H, I H → WX G x y0 σ B nb H) (hσ : Rg σ) (hB : RgB B) {a1 : Int} (h1 : inR a1) {a2 : Int} (h2 : inR a2) {a3 : Int} (h3 : inR a3) : MetS l yX4_piece cX4_piece 6 (some .int) { frames := 2, cells := 0, slots := 0, locals := 43 } G [.ref (x + 0), vI a1, vI a2, vI a3] I (poP I) (fun _ => False) 0 0 (g_X4_piece σ B nb a1 a2 a3) := by
  refine met_of (by decide) (Nat.le_of_ble_eq_true rfl) ?_
  intro p e s m below meth c hC hKA hr _
  have hK := hKA.1
  unfold g_X4_piece
  refine s_sub (L' := [(0, .ref (x + 0)), (1, vI a1), (2, vI a2), (3, vI a3)]) [0, 1, 2, 3] rfl ?_
  refine s_aload_n hC dX4_piece_0 rfl 0 rfl ?_
  refine s_get hC hK (fun H h => (hI H h).x) (by decide) o_X rfl q_w_X4 3 (by decide) q_f_X4_30 rfl dX4_piece_1 ?_
  refine u_gk (hσ 0 3) (fun q1 hq1 hq1r => ?_)
  refine s_iload_n hC dX4_piece_4 rfl 1 rfl ?_
  refine s_callV_R (As := [vI a1]) (rest := []) (a := ad x y0 q1 + 0) hC hKA 1 (m_X0_rowOf (b := ad x y0 q1) (fun H h => (hI H h).book hq1) (hB q1) h1) rfl (cb_of hC 1 q_c_yX0_rowOf q_i_X0 q_m_X4_108 rfl rfl dd_yX0_rowOf ⟨Nat.le_of_ble_eq_true rfl, Nat.le_of_ble_eq_true rfl⟩) q_i_yX0_rowOf q_x_yX0_rowOf (s_recv hK (fun H h => (hI H h).book hq1) (by decide) o_Book rfl) rfl (Nat.le_of_ble_eq_true rfl) dX4_piece_5 ⟨Nat.le_of_ble_eq_true rfl, Nat.le_of_ble_eq_true rfl⟩ (fun r2 => ?_)
  refine s_astoreR hC dX4_piece_8 (by decide) (fun z => [(4, z), (0, .ref (x + 0)), (1, vI a1), (2, vI a2), (3, vI a3)]) (fun _ => rfl) ?_
  refine s_aloadR hC dX4_piece_10 0 rfl ?_
  refine s_ifnullR (tgt := 28) hC dX4_piece_12 (by decide) ?_ ?_
  · refine s_sub (L' := []) [] rfl ?_
    refine s_iconst hC dX4_piece_28 ?_
    exact s_iret hC hr dX4_piece_29 (fun H hH => ⟨rfl, (inR_c _ rfl), hH⟩)
  · refine s_gkR (fun q3 hq3 eq3 => ?_)
    subst eq3
    refine s_sub (L' := [(4, .ref (ad x y0 q1 + (8 + 3 * q3))), (0, .ref (x + 0)), (1, vI a1), (2, vI a2), (3, vI a3)]) [0, 1, 2, 3, 4] rfl ?_
    refine s_sub (L' := [(0, .ref (x + 0)), (2, vI a2), (3, vI a3), (4, .ref (ad x y0 q1 + (8 + 3 * q3)))]) [1, 3, 4, 0] rfl ?_
    refine s_iload_n hC dX4_piece_15 rfl 1 rfl ?_
    refine s_if_lt (tgt := 28) hC dX4_piece_16 (by decide) h2 ?_ ?_
    · refine s_sub (L' := []) [] rfl ?_
      refine s_iconst hC dX4_piece_28 ?_
      exact s_iret hC hr dX4_piece_29 (fun H hH => ⟨rfl, (inR_c _ rfl), hH⟩)
    · refine s_iload_n hC dX4_piece_19 rfl 1 rfl ?_
      refine s_aload hC dX4_piece_20 3 rfl ?_
      refine s_get (b := ad x y0 q1) hC hK (fun H h => (hI H h).book hq1) (by omega) (o_Row (q := q3)) rfl q_w_X7 4 (by decide) q_f_X4_148 rfl dX4_piece_22 ?_
      refine s_icmp_lt (tgt := 30) hC dX4_piece_25 (by decide) h2 (hB q1 (8 + 3 * q3) 4) ?_ ?_
      · refine s_aload hC dX4_piece_30 3 rfl ?_
        refine s_get (b := ad x y0 q1) hC hK (fun H h => (hI H h).book hq1) (by omega) (o_Row (q := q3)) rfl q_w_X7 5 (by decide) q_f_X4_154 rfl dX4_piece_32 ?_
        refine s_iload_n hC dX4_piece_35 rfl 1 rfl ?_
        refine s_callS_P (As := [.ref (ad x y0 q1 + (9 + 3 * q3)), vI a2]) (rest := []) hC hKA 2 (m_X4_at (b := ad x y0 q1) (fun H h => (hI H h).book hq1) (hB q1) (by omega) (a_Spots (q := q3)) h2) rfl (cb_of hC 2 q_c_yX4_at q_i_X4 q_m_X4_76 rfl rfl dd_yX4_at ⟨Nat.le_of_ble_eq_true rfl, Nat.le_of_ble_eq_true rfl⟩) q_s_yX4_at rfl (Nat.le_of_ble_eq_true rfl) dX4_piece_36 ⟨Nat.le_of_ble_eq_true rfl, Nat.le_of_ble_eq_true rfl⟩ (fun r4 hr4 => ?_)
        refine s_istore (L' := [(5, vI r4), (0, .ref (x + 0)), (2, vI a2), (3, vI a3), (4, .ref (ad x y0 q1 + (8 + 3 * q3)))]) hC dX4_piece_39 (by decide) rfl ?_
        refine s_iload_n hC dX4_piece_41 rfl 3 rfl ?_
        refine s_ite (fun hz => ?_) (fun hz0 => ?_)
        · refine s_tabIn (tgt := 68) hC 0 dX4_piece_42 h3 hz (by decide) (by decide) rfl (by decide) ?_
          refine s_sub (L' := [(5, vI r4)]) [0] rfl ?_
          refine s_iload hC dX4_piece_68 0 rfl ?_
          refine s_bipush hC dX4_piece_70 (by decide) ?_
          refine s_idiv hC dX4_piece_72 hr4 (inR_c _ rfl) (by decide) (fun v5 hv5 => ?_)
          exact s_iret hC hr dX4_piece_73 (fun H hH => ⟨rfl, hv5, hH⟩)
        · refine s_ite (fun hz => ?_) (fun hz1 => ?_)
          · refine s_tabIn (tgt := 74) hC 1 dX4_piece_42 h3 hz (by decide) (by decide) rfl (by decide) ?_
            refine s_sub (L' := [(5, vI r4)]) [0] rfl ?_
            refine s_iload hC dX4_piece_74 0 rfl ?_
            refine s_bipush hC dX4_piece_76 (by decide) ?_
            refine s_irem hC dX4_piece_78 hr4 (inR_c _ rfl) (by decide) (fun v6 hv6 => ?_)
            exact s_iret hC hr dX4_piece_79 (fun H hH => ⟨rfl, hv6, hH⟩)
          · refine s_ite (fun hz => ?_) (fun hz2 => ?_)
            · refine s_tabIn (tgt := 80) hC 2 dX4_piece_42 h3 hz (by decide) (by decide) rfl (by decide) ?_
              refine s_sub (L' := [(0, .ref (x + 0)), (5, vI r4)]) [1, 0] rfl ?_
              refine s_aload_n hC dX4_piece_80 rfl 0 rfl ?_
              refine s_get hC hK (fun H h => (hI H h).x) (by decide) o_X rfl q_w_X4 3 (by decide) q_f_X4_30 rfl dX4_piece_81 ?_
              refine u_gk (hσ 0 3) (fun q7 hq7 hq7r => ?_)
              refine s_get (b := ad x y0 q7) hC hK (fun H h => (hI H h).book hq7) (by decide) o_Book rfl q_w_X0 3 (by decide) q_f_X4_123 rfl dX4_piece_84 ?_
              refine s_get (b := ad x y0 q7) hC hK (fun H h => (hI H h).book hq7) (by decide) o_Pages rfl q_w_X3 2 (by decide) q_f_X4_145 rfl dX4_piece_87 ?_
              refine s_iload hC dX4_piece_90 1 rfl ?_
              refine s_callS_P (As := [.ref (ad x y0 q7 + 4), vI r4]) (rest := []) hC hKA 2 (m_X4_at (b := ad x y0 q7) (fun H h => (hI H h).book hq7) (hB q7) (by decide) a_Book_4 hr4) rfl (cb_of hC 2 q_c_yX4_at q_i_X4 q_m_X4_76 rfl rfl dd_yX4_at ⟨Nat.le_of_ble_eq_true rfl, Nat.le_of_ble_eq_true rfl⟩) q_s_yX4_at rfl (Nat.le_of_ble_eq_true rfl) dX4_piece_92 ⟨Nat.le_of_ble_eq_true rfl, Nat.le_of_ble_eq_true rfl⟩ (fun r8 hr8 => ?_)
              refine s_iconst hC dX4_piece_95 ?_
              refine s_isub hC dX4_piece_96 ?_
              refine s_ck0 (fun v9 hv9 => ?_)
              exact s_iret hC hr dX4_piece_97 (fun H hH => ⟨rfl, hv9, hH⟩)
            · refine s_tabOut (tgt := 98) hC dX4_piece_42 h3 (by omega) (by decide) ?_
              refine s_sub (L' := []) [] rfl ?_
              refine s_bipush hC dX4_piece_98 (by decide) ?_
              exact s_iret hC hr dX4_piece_100 (fun H hH => ⟨rfl, (inR_c _ rfl), hH⟩)
      · refine s_sub (L' := []) [] rfl ?_
        refine s_iconst hC dX4_piece_28 ?_
        exact s_iret hC hr dX4_piece_29 (fun H hH => ⟨rfl, (inR_c _ rfl), hH⟩)
set_option maxHeartbeats 4000000 in
set_option maxRecDepth 100000 in
theorem m_X4_page {l : Launch} {G : Gt} {x y0 nb : Nat} {σ : Blk} {B : Nat → Blk}  {I : Heap → Prop} (h5 : x + 205 ≤ y0) (hI : ∀ H, I H → WX G x y0 σ B nb H) (hσ : Rg σ) (hB : RgB B) {a1 : Int} (h1 : inR a1) {a2 : Int} (h2 : inR a2) : MetS l yX4_page cX4_page 3 (some .int) { frames := 3, cells := 0, slots := 0, locals := 68 } G [.ref (x + 0), vI a1, vI a2] I (poP I) (fun _ => False) 0 0 (g_X4_page σ B nb a1 a2) := by
  refine met_of (by decide) (Nat.le_of_ble_eq_true rfl) ?_
  intro p e s m below meth c hC hKA hr _
  have hK := hKA.1
  unfold g_X4_page
  refine s_sub (L' := [(0, .ref (x + 0)), (1, vI a1), (2, vI a2)]) [0, 1, 2] rfl ?_
  refine s_iload_n hC dX4_page_0 rfl 1 rfl ?_
  refine s_if_lt (tgt := 10) hC dX4_page_1 (by decide) h1 ?_ ?_
  · refine s_sub (L' := []) [] rfl ?_
    refine s_iconst hC dX4_page_10 ?_
    exact s_iret hC hr dX4_page_11 (fun H hH => ⟨rfl, (inR_c _ rfl), hH⟩)
  · refine s_iload_n hC dX4_page_4 rfl 1 rfl ?_
    refine s_bipush hC dX4_page_5 (by decide) ?_
    refine s_icmp_lt (tgt := 12) hC dX4_page_7 (by decide) h1 (inR_c _ rfl) ?_ ?_
    · refine s_iload_n hC dX4_page_12 rfl 2 rfl ?_
      refine s_ite (fun hz => ?_) (fun hz0 => ?_)
      · refine s_tabIn (tgt := 52) hC 0 dX4_page_13 h2 hz (by decide) (by decide) rfl (by decide) ?_
        refine s_sub (L' := [(0, .ref (x + 0)), (1, vI a1)]) [0, 1] rfl ?_
        refine s_aload_n hC dX4_page_52 rfl 0 rfl ?_
        refine s_get hC hK (fun H h => (hI H h).x) (by decide) o_X rfl q_w_X4 3 (by decide) q_f_X4_30 rfl dX4_page_53 ?_
        refine u_gk (hσ 0 3) (fun q1 hq1 hq1r => ?_)
        refine s_get (b := ad x y0 q1) hC hK (fun H h => (hI H h).book hq1) (by decide) o_Book rfl q_w_X0 3 (by decide) q_f_X4_123 rfl dX4_page_56 ?_
        refine s_get (b := ad x y0 q1) hC hK (fun H h => (hI H h).book hq1) (by decide) o_Pages rfl q_w_X3 3 (by decide) q_f_X4_157 rfl dX4_page_59 ?_
        refine s_iload_n hC dX4_page_62 rfl 1 rfl ?_
        refine s_callS_P (As := [.ref (ad x y0 q1 + 5), vI a1]) (rest := []) hC hKA 2 (m_X4_at (b := ad x y0 q1) (fun H h => (hI H h).book hq1) (hB q1) (by decide) a_Book_5 h1) rfl (cb_of hC 2 q_c_yX4_at q_i_X4 q_m_X4_76 rfl rfl dd_yX4_at ⟨Nat.le_of_ble_eq_true rfl, Nat.le_of_ble_eq_true rfl⟩) q_s_yX4_at rfl (Nat.le_of_ble_eq_true rfl) dX4_page_63 ⟨Nat.le_of_ble_eq_true rfl, Nat.le_of_ble_eq_true rfl⟩ (fun r2 hr2 => ?_)
        exact s_iret hC hr dX4_page_66 (fun H hH => ⟨rfl, hr2, hH⟩)
      · refine s_ite (fun hz => ?_) (fun hz1 => ?_)
        · refine s_tabIn (tgt := 67) hC 1 dX4_page_13 h2 hz (by decide) (by decide) rfl (by decide) ?_
          refine s_sub (L' := [(0, .ref (x + 0)), (1, vI a1)]) [0, 1] rfl ?_
          refine s_aload_n hC dX4_page_67 rfl 0 rfl ?_
          refine s_get hC hK (fun H h => (hI H h).x) (by decide) o_X rfl q_w_X4 3 (by decide) q_f_X4_30 rfl dX4_page_68 ?_
          refine u_gk (hσ 0 3) (fun q3 hq3 hq3r => ?_)
          refine s_get (b := ad x y0 q3) hC hK (fun H h => (hI H h).book hq3) (by decide) o_Book rfl q_w_X0 3 (by decide) q_f_X4_123 rfl dX4_page_71 ?_
          refine s_iload_n hC dX4_page_74 rfl 1 rfl ?_
          refine s_callV_P (As := [vI a1]) (rest := []) (a := ad x y0 q3 + 1) hC hKA 1 (m_X3_slotsOf (b := ad x y0 q3) (fun H h => (hI H h).book hq3) (hB q3) h1) rfl (cb_of hC 1 q_c_yX3_slotsOf q_i_X3 q_m_X4_160 rfl rfl dd_yX3_slotsOf ⟨Nat.le_of_ble_eq_true rfl, Nat.le_of_ble_eq_true rfl⟩) q_i_yX3_slotsOf q_x_yX3_slotsOf (s_recv hK (fun H h => (hI H h).book hq3) (by decide) o_Pages rfl) rfl (Nat.le_of_ble_eq_true rfl) dX4_page_75 ⟨Nat.le_of_ble_eq_true rfl, Nat.le_of_ble_eq_true rfl⟩ (fun r4 hr4 => ?_)
          exact s_iret hC hr dX4_page_78 (fun H hH => ⟨rfl, hr4, hH⟩)
        · refine s_ite (fun hz => ?_) (fun hz2 => ?_)
          · refine s_tabIn (tgt := 79) hC 2 dX4_page_13 h2 hz (by decide) (by decide) rfl (by decide) ?_
            refine s_sub (L' := [(0, .ref (x + 0)), (1, vI a1)]) [0, 1] rfl ?_
            refine s_aload_n hC dX4_page_79 rfl 0 rfl ?_
            refine s_get hC hK (fun H h => (hI H h).x) (by decide) o_X rfl q_w_X4 3 (by decide) q_f_X4_30 rfl dX4_page_80 ?_
            refine u_gk (hσ 0 3) (fun q5 hq5 hq5r => ?_)
            refine s_get (b := ad x y0 q5) hC hK (fun H h => (hI H h).book hq5) (by decide) o_Book rfl q_w_X0 3 (by decide) q_f_X4_123 rfl dX4_page_83 ?_
            refine s_iload_n hC dX4_page_86 rfl 1 rfl ?_
            refine s_iconst hC dX4_page_87 ?_
            refine s_callV_P (As := [vI a1, vI 1]) (rest := []) (a := ad x y0 q5 + 1) hC hKA 2 (m_X3_thingsOn (b := ad x y0 q5) (fun H h => (hI H h).book hq5) (hB q5) h1 (inR_c _ rfl)) rfl (cb_of hC 2 q_c_yX3_thingsOn q_i_X3 q_m_X4_163 rfl rfl dd_yX3_thingsOn ⟨Nat.le_of_ble_eq_true rfl, Nat.le_of_ble_eq_true rfl⟩) q_i_yX3_thingsOn q_x_yX3_thingsOn (s_recv hK (fun H h => (hI H h).book hq5) (by decide) o_Pages rfl) rfl (Nat.le_of_ble_eq_true rfl) dX4_page_88 ⟨Nat.le_of_ble_eq_true rfl, Nat.le_of_ble_eq_true rfl⟩ (fun r6 hr6 => ?_)
            exact s_iret hC hr dX4_page_91 (fun H hH => ⟨rfl, hr6, hH⟩)
          · refine s_ite (fun hz => ?_) (fun hz3 => ?_)
            · refine s_tabIn (tgt := 92) hC 3 dX4_page_13 h2 hz (by decide) (by decide) rfl (by decide) ?_
              refine s_sub (L' := [(0, .ref (x + 0)), (1, vI a1)]) [0, 1] rfl ?_
              refine s_aload_n hC dX4_page_92 rfl 0 rfl ?_
              refine s_get hC hK (fun H h => (hI H h).x) (by decide) o_X rfl q_w_X4 3 (by decide) q_f_X4_30 rfl dX4_page_93 ?_
              refine u_gk (hσ 0 3) (fun q7 hq7 hq7r => ?_)
              refine s_get (b := ad x y0 q7) hC hK (fun H h => (hI H h).book hq7) (by decide) o_Book rfl q_w_X0 3 (by decide) q_f_X4_123 rfl dX4_page_96 ?_
              refine s_iload_n hC dX4_page_99 rfl 1 rfl ?_
              refine s_iconst hC dX4_page_100 ?_
              refine s_callV_P (As := [vI a1, vI 2]) (rest := []) (a := ad x y0 q7 + 1) hC hKA 2 (m_X3_thingsOn (b := ad x y0 q7) (fun H h => (hI H h).book hq7) (hB q7) h1 (inR_c _ rfl)) rfl (cb_of hC 2 q_c_yX3_thingsOn q_i_X3 q_m_X4_163 rfl rfl dd_yX3_thingsOn ⟨Nat.le_of_ble_eq_true rfl, Nat.le_of_ble_eq_true rfl⟩) q_i_yX3_thingsOn q_x_yX3_thingsOn (s_recv hK (fun H h => (hI H h).book hq7) (by decide) o_Pages rfl) rfl (Nat.le_of_ble_eq_true rfl) dX4_page_101 ⟨Nat.le_of_ble_eq_true rfl, Nat.le_of_ble_eq_true rfl⟩ (fun r8 hr8 => ?_)
              exact s_iret hC hr dX4_page_104 (fun H hH => ⟨rfl, hr8, hH⟩)
            · refine s_ite (fun hz => ?_) (fun hz4 => ?_)
              · refine s_tabIn (tgt := 105) hC 4 dX4_page_13 h2 hz (by decide) (by decide) rfl (by decide) ?_
                refine s_sub (L' := [(0, .ref (x + 0)), (1, vI a1)]) [0, 1] rfl ?_
                refine s_aload_n hC dX4_page_105 rfl 0 rfl ?_
                refine s_get hC hK (fun H h => (hI H h).x) (by decide) o_X rfl q_w_X4 3 (by decide) q_f_X4_30 rfl dX4_page_106 ?_
                refine u_gk (hσ 0 3) (fun q9 hq9 hq9r => ?_)
                refine s_get (b := ad x y0 q9) hC hK (fun H h => (hI H h).book hq9) (by decide) o_Book rfl q_w_X0 3 (by decide) q_f_X4_123 rfl dX4_page_109 ?_
                refine s_iload_n hC dX4_page_112 rfl 1 rfl ?_
                refine s_iconst hC dX4_page_113 ?_
                refine s_callV_P (As := [vI a1, vI 3]) (rest := []) (a := ad x y0 q9 + 1) hC hKA 2 (m_X3_thingsOn (b := ad x y0 q9) (fun H h => (hI H h).book hq9) (hB q9) h1 (inR_c _ rfl)) rfl (cb_of hC 2 q_c_yX3_thingsOn q_i_X3 q_m_X4_163 rfl rfl dd_yX3_thingsOn ⟨Nat.le_of_ble_eq_true rfl, Nat.le_of_ble_eq_true rfl⟩) q_i_yX3_thingsOn q_x_yX3_thingsOn (s_recv hK (fun H h => (hI H h).book hq9) (by decide) o_Pages rfl) rfl (Nat.le_of_ble_eq_true rfl) dX4_page_114 ⟨Nat.le_of_ble_eq_true rfl, Nat.le_of_ble_eq_true rfl⟩ (fun r10 hr10 => ?_)
                exact s_iret hC hr dX4_page_117 (fun H hH => ⟨rfl, hr10, hH⟩)
              · refine s_ite (fun hz => ?_) (fun hz5 => ?_)
                · refine s_tabIn (tgt := 118) hC 5 dX4_page_13 h2 hz (by decide) (by decide) rfl (by decide) ?_
                  refine s_sub (L' := [(0, .ref (x + 0)), (1, vI a1)]) [0, 1] rfl ?_
                  refine s_aload_n hC dX4_page_118 rfl 0 rfl ?_
                  refine s_get hC hK (fun H h => (hI H h).x) (by decide) o_X rfl q_w_X4 3 (by decide) q_f_X4_30 rfl dX4_page_119 ?_
                  refine u_gk (hσ 0 3) (fun q11 hq11 hq11r => ?_)
                  refine s_get (b := ad x y0 q11) hC hK (fun H h => (hI H h).book hq11) (by decide) o_Book rfl q_w_X0 3 (by decide) q_f_X4_123 rfl dX4_page_122 ?_
                  refine s_iload_n hC dX4_page_125 rfl 1 rfl ?_
                  refine s_iconst hC dX4_page_126 ?_
                  refine s_callV_P (As := [vI a1, vI 0]) (rest := []) (a := ad x y0 q11 + 1) hC hKA 2 (m_X3_thingsOn (b := ad x y0 q11) (fun H h => (hI H h).book hq11) (hB q11) h1 (inR_c _ rfl)) rfl (cb_of hC 2 q_c_yX3_thingsOn q_i_X3 q_m_X4_163 rfl rfl dd_yX3_thingsOn ⟨Nat.le_of_ble_eq_true rfl, Nat.le_of_ble_eq_true rfl⟩) q_i_yX3_thingsOn q_x_yX3_thingsOn (s_recv hK (fun H h => (hI H h).book hq11) (by decide) o_Pages rfl) rfl (Nat.le_of_ble_eq_true rfl) dX4_page_127 ⟨Nat.le_of_ble_eq_true rfl, Nat.le_of_ble_eq_true rfl⟩ (fun r12 hr12 => ?_)
                  exact s_iret hC hr dX4_page_130 (fun H hH => ⟨rfl, hr12, hH⟩)
                · refine s_tabOut (tgt := 131) hC dX4_page_13 h2 (by omega) (by decide) ?_
                  refine s_sub (L' := []) [] rfl ?_
                  refine s_bipush hC dX4_page_131 (by decide) ?_
                  exact s_iret hC hr dX4_page_133 (fun H hH => ⟨rfl, (inR_c _ rfl), hH⟩)
    · refine s_sub (L' := []) [] rfl ?_
      refine s_iconst hC dX4_page_10 ?_
      exact s_iret hC hr dX4_page_11 (fun H hH => ⟨rfl, (inR_c _ rfl), hH⟩)
set_option maxHeartbeats 4000000 in
set_option maxRecDepth 100000 in
theorem m_X4_slot {l : Launch} {G : Gt} {x y0 nb : Nat} {σ : Blk} {B : Nat → Blk}  {I : Heap → Prop} (h5 : x + 205 ≤ y0) (hI : ∀ H, I H → WX G x y0 σ B nb H) (hσ : Rg σ) (hB : RgB B) {a1 : Int} (h1 : inR a1) {a2 : Int} (h2 : inR a2) {a3 : Int} (h3 : inR a3) : MetS l yX4_slot cX4_slot 5 (some .int) { frames := 2, cells := 0, slots := 0, locals := 43 } G [.ref (x + 0), vI a1, vI a2, vI a3] I (poP I) (fun _ => False) 0 0 (g_X4_slot σ B nb a1 a2 a3) := by
  refine met_of (by decide) (Nat.le_of_ble_eq_true rfl) ?_
  intro p e s m below meth c hC hKA hr _
  have hK := hKA.1
  unfold g_X4_slot
  refine s_sub (L' := [(0, .ref (x + 0)), (1, vI a1), (2, vI a2), (3, vI a3)]) [0, 1, 2, 3] rfl ?_
  refine s_iload_n hC dX4_slot_0 rfl 1 rfl ?_
  refine s_if_lt (tgt := 29) hC dX4_slot_1 (by decide) h1 ?_ ?_
  · refine s_sub (L' := []) [] rfl ?_
    refine s_iconst hC dX4_slot_29 ?_
    exact s_iret hC hr dX4_slot_30 (fun H hH => ⟨rfl, (inR_c _ rfl), hH⟩)
  · refine s_iload_n hC dX4_slot_4 rfl 1 rfl ?_
    refine s_bipush hC dX4_slot_5 (by decide) ?_
    refine s_icmp_ge (tgt := 29) hC dX4_slot_7 (by decide) h1 (inR_c _ rfl) ?_ ?_
    · refine s_sub (L' := []) [] rfl ?_
      refine s_iconst hC dX4_slot_29 ?_
      exact s_iret hC hr dX4_slot_30 (fun H hH => ⟨rfl, (inR_c _ rfl), hH⟩)
    · refine s_iload_n hC dX4_slot_10 rfl 2 rfl ?_
      refine s_if_lt (tgt := 29) hC dX4_slot_11 (by decide) h2 ?_ ?_
      · refine s_sub (L' := []) [] rfl ?_
        refine s_iconst hC dX4_slot_29 ?_
        exact s_iret hC hr dX4_slot_30 (fun H hH => ⟨rfl, (inR_c _ rfl), hH⟩)
      · refine s_iload_n hC dX4_slot_14 rfl 2 rfl ?_
        refine s_aload_n hC dX4_slot_15 rfl 0 rfl ?_
        refine s_get hC hK (fun H h => (hI H h).x) (by decide) o_X rfl q_w_X4 3 (by decide) q_f_X4_30 rfl dX4_slot_16 ?_
        refine u_gk (hσ 0 3) (fun q1 hq1 hq1r => ?_)
        refine s_get (b := ad x y0 q1) hC hK (fun H h => (hI H h).book hq1) (by decide) o_Book rfl q_w_X0 3 (by decide) q_f_X4_123 rfl dX4_slot_19 ?_
        refine s_iload_n hC dX4_slot_22 rfl 1 rfl ?_
        refine s_callV_P (As := [vI a1]) (rest := [vI a2]) (a := ad x y0 q1 + 1) hC hKA 1 (m_X3_slotsOf (b := ad x y0 q1) (fun H h => (hI H h).book hq1) (hB q1) h1) rfl (cb_of hC 1 q_c_yX3_slotsOf q_i_X3 q_m_X4_160 rfl rfl dd_yX3_slotsOf ⟨Nat.le_of_ble_eq_true rfl, Nat.le_of_ble_eq_true rfl⟩) q_i_yX3_slotsOf q_x_yX3_slotsOf (s_recv hK (fun H h => (hI H h).book hq1) (by decide) o_Pages rfl) rfl (Nat.le_of_ble_eq_true rfl) dX4_slot_23 ⟨Nat.le_of_ble_eq_true rfl, Nat.le_of_ble_eq_true rfl⟩ (fun r2 hr2 => ?_)
        refine s_icmp_lt (tgt := 31) hC dX4_slot_26 (by decide) h2 hr2 ?_ ?_
        · refine s_iload_n hC dX4_slot_31 rfl 1 rfl ?_
          refine s_bipush hC dX4_slot_32 (by decide) ?_
          refine s_imul hC dX4_slot_34 ?_
          refine s_iload_n hC dX4_slot_35 rfl 2 rfl ?_
          refine s_iadd hC dX4_slot_36 ?_
          refine s_ck0 (fun v3 hv3 => ?_)
          refine s_istore (L' := [(4, vI v3), (0, .ref (x + 0)), (1, vI a1), (2, vI a2), (3, vI a3)]) hC dX4_slot_37 (by decide) rfl ?_
          refine s_iload_n hC dX4_slot_39 rfl 4 rfl ?_
          refine s_ite (fun hz => ?_) (fun hz0 => ?_)
          · refine s_tabIn (tgt := 68) hC 0 dX4_slot_40 h3 hz (by decide) (by decide) rfl (by decide) ?_
            refine s_sub (L' := [(0, .ref (x + 0)), (4, vI v3)]) [1, 0] rfl ?_
            refine s_aload_n hC dX4_slot_68 rfl 0 rfl ?_
            refine s_get hC hK (fun H h => (hI H h).x) (by decide) o_X rfl q_w_X4 3 (by decide) q_f_X4_30 rfl dX4_slot_69 ?_
            refine u_gk (hσ 0 3) (fun q4 hq4 hq4r => ?_)
            refine s_get (b := ad x y0 q4) hC hK (fun H h => (hI H h).book hq4) (by decide) o_Book rfl q_w_X0 3 (by decide) q_f_X4_123 rfl dX4_slot_72 ?_
            refine s_get (b := ad x y0 q4) hC hK (fun H h => (hI H h).book hq4) (by decide) o_Pages rfl q_w_X3 0 (by decide) q_f_X4_167 rfl dX4_slot_75 ?_
            refine s_iload hC dX4_slot_78 1 rfl ?_
            refine s_callS_P (As := [.ref (ad x y0 q4 + 2), vI v3]) (rest := []) hC hKA 2 (m_X4_at (b := ad x y0 q4) (fun H h => (hI H h).book hq4) (hB q4) (by decide) a_Book_2 hv3) rfl (cb_of hC 2 q_c_yX4_at q_i_X4 q_m_X4_76 rfl rfl dd_yX4_at ⟨Nat.le_of_ble_eq_true rfl, Nat.le_of_ble_eq_true rfl⟩) q_s_yX4_at rfl (Nat.le_of_ble_eq_true rfl) dX4_slot_80 ⟨Nat.le_of_ble_eq_true rfl, Nat.le_of_ble_eq_true rfl⟩ (fun r5 hr5 => ?_)
            exact s_iret hC hr dX4_slot_83 (fun H hH => ⟨rfl, hr5, hH⟩)
          · refine s_ite (fun hz => ?_) (fun hz1 => ?_)
            · refine s_tabIn (tgt := 84) hC 1 dX4_slot_40 h3 hz (by decide) (by decide) rfl (by decide) ?_
              refine s_sub (L' := [(0, .ref (x + 0)), (4, vI v3)]) [1, 0] rfl ?_
              refine s_aload_n hC dX4_slot_84 rfl 0 rfl ?_
              refine s_get hC hK (fun H h => (hI H h).x) (by decide) o_X rfl q_w_X4 3 (by decide) q_f_X4_30 rfl dX4_slot_85 ?_
              refine u_gk (hσ 0 3) (fun q6 hq6 hq6r => ?_)
              refine s_get (b := ad x y0 q6) hC hK (fun H h => (hI H h).book hq6) (by decide) o_Book rfl q_w_X0 3 (by decide) q_f_X4_123 rfl dX4_slot_88 ?_
              refine s_get (b := ad x y0 q6) hC hK (fun H h => (hI H h).book hq6) (by decide) o_Pages rfl q_w_X3 0 (by decide) q_f_X4_167 rfl dX4_slot_91 ?_
              refine s_iload hC dX4_slot_94 1 rfl ?_
              refine s_callS_P (As := [.ref (ad x y0 q6 + 2), vI v3]) (rest := []) hC hKA 2 (m_X4_at (b := ad x y0 q6) (fun H h => (hI H h).book hq6) (hB q6) (by decide) a_Book_2 hv3) rfl (cb_of hC 2 q_c_yX4_at q_i_X4 q_m_X4_76 rfl rfl dd_yX4_at ⟨Nat.le_of_ble_eq_true rfl, Nat.le_of_ble_eq_true rfl⟩) q_s_yX4_at rfl (Nat.le_of_ble_eq_true rfl) dX4_slot_96 ⟨Nat.le_of_ble_eq_true rfl, Nat.le_of_ble_eq_true rfl⟩ (fun r7 hr7 => ?_)
              refine s_if_ne (tgt := 107) hC dX4_slot_99 (by decide) hr7 ?_ ?_
              · refine s_aload_n hC dX4_slot_107 rfl 0 rfl ?_
                refine s_get hC hK (fun H h => (hI H h).x) (by decide) o_X rfl q_w_X4 3 (by decide) q_f_X4_30 rfl dX4_slot_108 ?_
                refine u_gk (hσ 0 3) (fun q8 hq8 hq8r => ?_)
                refine s_get (b := ad x y0 q8) hC hK (fun H h => (hI H h).book hq8) (by decide) o_Book rfl q_w_X0 3 (by decide) q_f_X4_123 rfl dX4_slot_111 ?_
                refine s_get (b := ad x y0 q8) hC hK (fun H h => (hI H h).book hq8) (by decide) o_Pages rfl q_w_X3 1 (by decide) q_f_X4_170 rfl dX4_slot_114 ?_
                refine s_iload hC dX4_slot_117 1 rfl ?_
                refine s_callS_P (As := [.ref (ad x y0 q8 + 3), vI v3]) (rest := []) hC hKA 2 (m_X4_at (b := ad x y0 q8) (fun H h => (hI H h).book hq8) (hB q8) (by decide) a_Book_3 hv3) rfl (cb_of hC 2 q_c_yX4_at q_i_X4 q_m_X4_76 rfl rfl dd_yX4_at ⟨Nat.le_of_ble_eq_true rfl, Nat.le_of_ble_eq_true rfl⟩) q_s_yX4_at rfl (Nat.le_of_ble_eq_true rfl) dX4_slot_119 ⟨Nat.le_of_ble_eq_true rfl, Nat.le_of_ble_eq_true rfl⟩ (fun r9 hr9 => ?_)
                refine s_sub (L' := []) [] rfl ?_
                exact s_iret hC hr dX4_slot_122 (fun H hH => ⟨rfl, hr9, hH⟩)
              · refine s_sub (L' := []) [] rfl ?_
                refine s_bipush hC dX4_slot_102 (by decide) ?_
                refine s_goto (tgt := 122) hC dX4_slot_104 (by decide) ?_
                exact s_iret hC hr dX4_slot_122 (fun H hH => ⟨rfl, (inR_c _ rfl), hH⟩)
            · refine s_ite (fun hz => ?_) (fun hz2 => ?_)
              · refine s_tabIn (tgt := 123) hC 2 dX4_slot_40 h3 hz (by decide) (by decide) rfl (by decide) ?_
                refine s_sub (L' := [(0, .ref (x + 0)), (4, vI v3)]) [1, 0] rfl ?_
                refine s_aload_n hC dX4_slot_123 rfl 0 rfl ?_
                refine s_get hC hK (fun H h => (hI H h).x) (by decide) o_X rfl q_w_X4 3 (by decide) q_f_X4_30 rfl dX4_slot_124 ?_
                refine u_gk (hσ 0 3) (fun q10 hq10 hq10r => ?_)
                refine s_get (b := ad x y0 q10) hC hK (fun H h => (hI H h).book hq10) (by decide) o_Book rfl q_w_X0 3 (by decide) q_f_X4_123 rfl dX4_slot_127 ?_
                refine s_get (b := ad x y0 q10) hC hK (fun H h => (hI H h).book hq10) (by decide) o_Pages rfl q_w_X3 2 (by decide) q_f_X4_145 rfl dX4_slot_130 ?_
                refine s_iload hC dX4_slot_133 1 rfl ?_
                refine s_callS_P (As := [.ref (ad x y0 q10 + 4), vI v3]) (rest := []) hC hKA 2 (m_X4_at (b := ad x y0 q10) (fun H h => (hI H h).book hq10) (hB q10) (by decide) a_Book_4 hv3) rfl (cb_of hC 2 q_c_yX4_at q_i_X4 q_m_X4_76 rfl rfl dd_yX4_at ⟨Nat.le_of_ble_eq_true rfl, Nat.le_of_ble_eq_true rfl⟩) q_s_yX4_at rfl (Nat.le_of_ble_eq_true rfl) dX4_slot_135 ⟨Nat.le_of_ble_eq_true rfl, Nat.le_of_ble_eq_true rfl⟩ (fun r11 hr11 => ?_)
                exact s_iret hC hr dX4_slot_138 (fun H hH => ⟨rfl, hr11, hH⟩)
              · refine s_tabOut (tgt := 139) hC dX4_slot_40 h3 (by omega) (by decide) ?_
                refine s_sub (L' := []) [] rfl ?_
                refine s_bipush hC dX4_slot_139 (by decide) ?_
                exact s_iret hC hr dX4_slot_141 (fun H hH => ⟨rfl, (inR_c _ rfl), hH⟩)
        · refine s_sub (L' := []) [] rfl ?_
          refine s_iconst hC dX4_slot_29 ?_
          exact s_iret hC hr dX4_slot_30 (fun H hH => ⟨rfl, (inR_c _ rfl), hH⟩)
set_option maxHeartbeats 4000000 in
set_option maxRecDepth 100000 in
theorem m_X4_count {l : Launch} {G : Gt} {x y0 nb : Nat} {σ : Blk} {B : Nat → Blk}  {I : Heap → Prop} (h5 : x + 205 ≤ y0) (hI : ∀ H, I H → WX G x y0 σ B nb H) (hσ : Rg σ) (hB : RgB B) {a1 : Int} (h1 : inR a1) : MetS l yX4_count cX4_count 2 (some .int) { frames := 4, cells := 0, slots := 0, locals := 91 } G [.ref (x + 0), vI a1] I (poP I) (fun _ => False) 0 0 (g_X4_count σ B nb a1) := by
  refine met_of (by decide) (Nat.le_of_ble_eq_true rfl) ?_
  intro p e s m below meth c hC hKA hr _
  have hK := hKA.1
  unfold g_X4_count
  refine s_sub (L' := [(0, .ref (x + 0)), (1, vI a1)]) [0, 1] rfl ?_
  refine s_iload_n hC dX4_count_0 rfl 1 rfl ?_
  refine s_ite (fun hz => ?_) (fun hz0 => ?_)
  · refine s_tabIn (tgt := 64) hC 0 dX4_count_1 h1 hz (by decide) (by decide) rfl (by decide) ?_
    refine s_sub (L' := [(0, .ref (x + 0))]) [0] rfl ?_
    refine s_aload_n hC dX4_count_64 rfl 0 rfl ?_
    refine s_get hC hK (fun H h => (hI H h).x) (by decide) o_X rfl q_w_X4 3 (by decide) q_f_X4_30 rfl dX4_count_65 ?_
    refine u_gk (hσ 0 3) (fun q1 hq1 hq1r => ?_)
    refine s_get (b := ad x y0 q1) hC hK (fun H h => (hI H h).book hq1) (by decide) o_Book rfl q_w_X0 2 (by decide) q_f_X4_173 rfl dX4_count_68 ?_
    exact s_iret hC hr dX4_count_71 (fun H hH => ⟨rfl, (hB q1 0 2), hH⟩)
  · refine s_ite (fun hz => ?_) (fun hz1 => ?_)
    · refine s_tabIn (tgt := 72) hC 1 dX4_count_1 h1 hz (by decide) (by decide) rfl (by decide) ?_
      refine s_sub (L' := [(0, .ref (x + 0))]) [0] rfl ?_
      refine s_aload_n hC dX4_count_72 rfl 0 rfl ?_
      refine s_get hC hK (fun H h => (hI H h).x) (by decide) o_X rfl q_w_X4 3 (by decide) q_f_X4_30 rfl dX4_count_73 ?_
      refine u_gk (hσ 0 3) (fun q2 hq2 hq2r => ?_)
      refine s_get (b := ad x y0 q2) hC hK (fun H h => (hI H h).book hq2) (by decide) o_Book rfl q_w_X0 3 (by decide) q_f_X4_123 rfl dX4_count_76 ?_
      refine s_callV_P (As := []) (rest := []) (a := ad x y0 q2 + 1) hC hKA 0 (m_X3_pagesInUse (b := ad x y0 q2) (fun H h => (hI H h).book hq2) (hB q2)) rfl (cb_of hC 0 q_c_yX3_pagesInUse q_i_X3 q_m_X4_127 rfl rfl dd_yX3_pagesInUse ⟨Nat.le_of_ble_eq_true rfl, Nat.le_of_ble_eq_true rfl⟩) q_i_yX3_pagesInUse q_x_yX3_pagesInUse (s_recv hK (fun H h => (hI H h).book hq2) (by decide) o_Pages rfl) rfl (Nat.le_of_ble_eq_true rfl) dX4_count_79 ⟨Nat.le_of_ble_eq_true rfl, Nat.le_of_ble_eq_true rfl⟩ (fun r3 hr3 => ?_)
      exact s_iret hC hr dX4_count_82 (fun H hH => ⟨rfl, hr3, hH⟩)
    · refine s_ite (fun hz => ?_) (fun hz2 => ?_)
      · refine s_tabIn (tgt := 83) hC 2 dX4_count_1 h1 hz (by decide) (by decide) rfl (by decide) ?_
        refine s_sub (L' := [(0, .ref (x + 0))]) [0] rfl ?_
        refine s_aload_n hC dX4_count_83 rfl 0 rfl ?_
        refine s_get hC hK (fun H h => (hI H h).x) (by decide) o_X rfl q_w_X4 3 (by decide) q_f_X4_30 rfl dX4_count_84 ?_
        refine u_gk (hσ 0 3) (fun q4 hq4 hq4r => ?_)
        refine s_get (b := ad x y0 q4) hC hK (fun H h => (hI H h).book hq4) (by decide) o_Book rfl q_w_X0 3 (by decide) q_f_X4_123 rfl dX4_count_87 ?_
        refine s_iconst hC dX4_count_90 ?_
        refine s_callV_P (As := [vI 3]) (rest := []) (a := ad x y0 q4 + 1) hC hKA 1 (m_X3_thingsInAll (b := ad x y0 q4) (fun H h => (hI H h).book hq4) (hB q4) (inR_c _ rfl)) rfl (cb_of hC 1 q_c_yX3_thingsInAll q_i_X3 q_m_X4_174 rfl rfl dd_yX3_thingsInAll ⟨Nat.le_of_ble_eq_true rfl, Nat.le_of_ble_eq_true rfl⟩) q_i_yX3_thingsInAll q_x_yX3_thingsInAll (s_recv hK (fun H h => (hI H h).book hq4) (by decide) o_Pages rfl) rfl (Nat.le_of_ble_eq_true rfl) dX4_count_91 ⟨Nat.le_of_ble_eq_true rfl, Nat.le_of_ble_eq_true rfl⟩ (fun r5 hr5 => ?_)
        exact s_iret hC hr dX4_count_94 (fun H hH => ⟨rfl, hr5, hH⟩)
      · refine s_ite (fun hz => ?_) (fun hz3 => ?_)
        · refine s_tabIn (tgt := 95) hC 3 dX4_count_1 h1 hz (by decide) (by decide) rfl (by decide) ?_
          refine s_sub (L' := [(0, .ref (x + 0))]) [0] rfl ?_
          refine s_aload_n hC dX4_count_95 rfl 0 rfl ?_
          refine s_get hC hK (fun H h => (hI H h).x) (by decide) o_X rfl q_w_X4 3 (by decide) q_f_X4_30 rfl dX4_count_96 ?_
          refine u_gk (hσ 0 3) (fun q6 hq6 hq6r => ?_)
          refine s_get (b := ad x y0 q6) hC hK (fun H h => (hI H h).book hq6) (by decide) o_Book rfl q_w_X0 3 (by decide) q_f_X4_123 rfl dX4_count_99 ?_
          refine s_iconst hC dX4_count_102 ?_
          refine s_callV_P (As := [vI 2]) (rest := []) (a := ad x y0 q6 + 1) hC hKA 1 (m_X3_thingsInAll (b := ad x y0 q6) (fun H h => (hI H h).book hq6) (hB q6) (inR_c _ rfl)) rfl (cb_of hC 1 q_c_yX3_thingsInAll q_i_X3 q_m_X4_174 rfl rfl dd_yX3_thingsInAll ⟨Nat.le_of_ble_eq_true rfl, Nat.le_of_ble_eq_true rfl⟩) q_i_yX3_thingsInAll q_x_yX3_thingsInAll (s_recv hK (fun H h => (hI H h).book hq6) (by decide) o_Pages rfl) rfl (Nat.le_of_ble_eq_true rfl) dX4_count_103 ⟨Nat.le_of_ble_eq_true rfl, Nat.le_of_ble_eq_true rfl⟩ (fun r7 hr7 => ?_)
          exact s_iret hC hr dX4_count_106 (fun H hH => ⟨rfl, hr7, hH⟩)
        · refine s_ite (fun hz => ?_) (fun hz4 => ?_)
          · refine s_tabIn (tgt := 107) hC 4 dX4_count_1 h1 hz (by decide) (by decide) rfl (by decide) ?_
            refine s_sub (L' := [(0, .ref (x + 0))]) [0] rfl ?_
            refine s_aload_n hC dX4_count_107 rfl 0 rfl ?_
            refine s_get hC hK (fun H h => (hI H h).x) (by decide) o_X rfl q_w_X4 3 (by decide) q_f_X4_30 rfl dX4_count_108 ?_
            refine u_gk (hσ 0 3) (fun q8 hq8 hq8r => ?_)
            refine s_get (b := ad x y0 q8) hC hK (fun H h => (hI H h).book hq8) (by decide) o_Book rfl q_w_X0 3 (by decide) q_f_X4_123 rfl dX4_count_111 ?_
            refine s_callV_P (As := []) (rest := []) (a := ad x y0 q8 + 1) hC hKA 0 (m_X3_freeInAll (b := ad x y0 q8) (fun H h => (hI H h).book hq8) (hB q8)) rfl (cb_of hC 0 q_c_yX3_freeInAll q_i_X3 q_m_X4_177 rfl rfl dd_yX3_freeInAll ⟨Nat.le_of_ble_eq_true rfl, Nat.le_of_ble_eq_true rfl⟩) q_i_yX3_freeInAll q_x_yX3_freeInAll (s_recv hK (fun H h => (hI H h).book hq8) (by decide) o_Pages rfl) rfl (Nat.le_of_ble_eq_true rfl) dX4_count_114 ⟨Nat.le_of_ble_eq_true rfl, Nat.le_of_ble_eq_true rfl⟩ (fun r9 hr9 => ?_)
            exact s_iret hC hr dX4_count_117 (fun H hH => ⟨rfl, hr9, hH⟩)
          · refine s_ite (fun hz => ?_) (fun hz5 => ?_)
            · refine s_tabIn (tgt := 118) hC 5 dX4_count_1 h1 hz (by decide) (by decide) rfl (by decide) ?_
              refine s_sub (L' := [(0, .ref (x + 0))]) [0] rfl ?_
              refine s_aload_n hC dX4_count_118 rfl 0 rfl ?_
              refine s_get hC hK (fun H h => (hI H h).x) (by decide) o_X rfl q_w_X4 3 (by decide) q_f_X4_30 rfl dX4_count_119 ?_
              refine u_gk (hσ 0 3) (fun q10 hq10 hq10r => ?_)
              refine s_callV_P (As := []) (rest := []) (a := ad x y0 q10 + 0) hC hKA 0 (m_X0_costInAll (b := ad x y0 q10) (fun H h => (hI H h).book hq10) (hB q10)) rfl (cb_of hC 0 q_c_yX0_costInAll q_i_X0 q_m_X4_180 rfl rfl dd_yX0_costInAll ⟨Nat.le_of_ble_eq_true rfl, Nat.le_of_ble_eq_true rfl⟩) q_i_yX0_costInAll q_x_yX0_costInAll (s_recv hK (fun H h => (hI H h).book hq10) (by decide) o_Book rfl) rfl (Nat.le_of_ble_eq_true rfl) dX4_count_122 ⟨Nat.le_of_ble_eq_true rfl, Nat.le_of_ble_eq_true rfl⟩ (fun r11 hr11 => ?_)
              exact s_iret hC hr dX4_count_125 (fun H hH => ⟨rfl, hr11, hH⟩)
            · refine s_ite (fun hz => ?_) (fun hz6 => ?_)
              · refine s_tabIn (tgt := 126) hC 6 dX4_count_1 h1 hz (by decide) (by decide) rfl (by decide) ?_
                refine s_sub (L' := [(0, .ref (x + 0))]) [0] rfl ?_
                refine s_aload_n hC dX4_count_126 rfl 0 rfl ?_
                refine s_get hC hK (fun H h => (hI H h).x) (by decide) o_X rfl q_w_X4 3 (by decide) q_f_X4_30 rfl dX4_count_127 ?_
                refine u_gk (hσ 0 3) (fun q12 hq12 hq12r => ?_)
                refine s_callV_P (As := []) (rest := []) (a := ad x y0 q12 + 0) hC hKA 0 (m_X0_lettersInAll (b := ad x y0 q12) (fun H h => (hI H h).book hq12) (hB q12)) rfl (cb_of hC 0 q_c_yX0_lettersInAll q_i_X0 q_m_X4_183 rfl rfl dd_yX0_lettersInAll ⟨Nat.le_of_ble_eq_true rfl, Nat.le_of_ble_eq_true rfl⟩) q_i_yX0_lettersInAll q_x_yX0_lettersInAll (s_recv hK (fun H h => (hI H h).book hq12) (by decide) o_Book rfl) rfl (Nat.le_of_ble_eq_true rfl) dX4_count_130 ⟨Nat.le_of_ble_eq_true rfl, Nat.le_of_ble_eq_true rfl⟩ (fun r13 hr13 => ?_)
                exact s_iret hC hr dX4_count_133 (fun H hH => ⟨rfl, hr13, hH⟩)
              · refine s_ite (fun hz => ?_) (fun hz7 => ?_)
                · refine s_tabIn (tgt := 134) hC 7 dX4_count_1 h1 hz (by decide) (by decide) rfl (by decide) ?_
                  refine s_sub (L' := [(0, .ref (x + 0))]) [0] rfl ?_
                  refine s_aload_n hC dX4_count_134 rfl 0 rfl ?_
                  refine s_get hC hK (fun H h => (hI H h).x) (by decide) o_X rfl q_w_X4 3 (by decide) q_f_X4_30 rfl dX4_count_135 ?_
                  refine u_gk (hσ 0 3) (fun q14 hq14 hq14r => ?_)
                  refine s_get (b := ad x y0 q14) hC hK (fun H h => (hI H h).book hq14) (by decide) o_Book rfl q_w_X0 2 (by decide) q_f_X4_173 rfl dX4_count_138 ?_
                  refine s_if_ne (tgt := 149) hC dX4_count_141 (by decide) (hB q14 0 2) ?_ ?_
                  · refine s_aload_n hC dX4_count_149 rfl 0 rfl ?_
                    refine s_get hC hK (fun H h => (hI H h).x) (by decide) o_X rfl q_w_X4 3 (by decide) q_f_X4_30 rfl dX4_count_150 ?_
                    refine u_gk (hσ 0 3) (fun q15 hq15 hq15r => ?_)
                    refine s_callV_P (As := []) (rest := []) (a := ad x y0 q15 + 0) hC hKA 0 (m_X0_greatestCost (b := ad x y0 q15) (fun H h => (hI H h).book hq15) (hB q15)) rfl (cb_of hC 0 q_c_yX0_greatestCost q_i_X0 q_m_X4_186 rfl rfl dd_yX0_greatestCost ⟨Nat.le_of_ble_eq_true rfl, Nat.le_of_ble_eq_true rfl⟩) q_i_yX0_greatestCost q_x_yX0_greatestCost (s_recv hK (fun H h => (hI H h).book hq15) (by decide) o_Book rfl) rfl (Nat.le_of_ble_eq_true rfl) dX4_count_153 ⟨Nat.le_of_ble_eq_true rfl, Nat.le_of_ble_eq_true rfl⟩ (fun r16 hr16 => ?_)
                    refine s_sub (L' := []) [] rfl ?_
                    exact s_iret hC hr dX4_count_156 (fun H hH => ⟨rfl, hr16, hH⟩)
                  · refine s_sub (L' := []) [] rfl ?_
                    refine s_bipush hC dX4_count_144 (by decide) ?_
                    refine s_goto (tgt := 156) hC dX4_count_146 (by decide) ?_
                    exact s_iret hC hr dX4_count_156 (fun H hH => ⟨rfl, (inR_c _ rfl), hH⟩)
                · refine s_ite (fun hz => ?_) (fun hz8 => ?_)
                  · refine s_tabIn (tgt := 157) hC 8 dX4_count_1 h1 hz (by decide) (by decide) rfl (by decide) ?_
                    refine s_sub (L' := [(0, .ref (x + 0))]) [0] rfl ?_
                    refine s_aload_n hC dX4_count_157 rfl 0 rfl ?_
                    refine s_get hC hK (fun H h => (hI H h).x) (by decide) o_X rfl q_w_X4 3 (by decide) q_f_X4_30 rfl dX4_count_158 ?_
                    refine u_gk (hσ 0 3) (fun q17 hq17 hq17r => ?_)
                    refine s_get (b := ad x y0 q17) hC hK (fun H h => (hI H h).book hq17) (by decide) o_Book rfl q_w_X0 0 (by decide) q_f_X4_48 rfl dX4_count_161 ?_
                    exact s_iret hC hr dX4_count_164 (fun H hH => ⟨rfl, (hB q17 0 0), hH⟩)
                  · refine s_ite (fun hz => ?_) (fun hz9 => ?_)
                    · refine s_tabIn (tgt := 165) hC 9 dX4_count_1 h1 hz (by decide) (by decide) rfl (by decide) ?_
                      refine s_sub (L' := [(0, .ref (x + 0))]) [0] rfl ?_
                      refine s_aload_n hC dX4_count_165 rfl 0 rfl ?_
                      refine s_get hC hK (fun H h => (hI H h).x) (by decide) o_X rfl q_w_X4 3 (by decide) q_f_X4_30 rfl dX4_count_166 ?_
                      refine u_gk (hσ 0 3) (fun q18 hq18 hq18r => ?_)
                      refine s_get (b := ad x y0 q18) hC hK (fun H h => (hI H h).book hq18) (by decide) o_Book rfl q_w_X0 1 (by decide) q_f_X4_52 rfl dX4_count_169 ?_
                      exact s_iret hC hr dX4_count_172 (fun H hH => ⟨rfl, (hB q18 0 1), hH⟩)
                    · refine s_ite (fun hz => ?_) (fun hz10 => ?_)
                      · refine s_tabIn (tgt := 173) hC 10 dX4_count_1 h1 hz (by decide) (by decide) rfl (by decide) ?_
                        refine s_sub (L' := [(0, .ref (x + 0))]) [0] rfl ?_
                        refine s_aload_n hC dX4_count_173 rfl 0 rfl ?_
                        refine s_get hC hK (fun H h => (hI H h).x) (by decide) o_X rfl q_w_X4 0 (by decide) q_f_X4_12 rfl dX4_count_174 ?_
                        refine s_get hC hK (fun H h => (hI H h).x) (by decide) o_PadX rfl q_w_X2 1 (by decide) q_f_X4_66 rfl dX4_count_177 ?_
                        exact s_iret hC hr dX4_count_180 (fun H hH => ⟨rfl, (hσ 1 1), hH⟩)
                      · refine s_ite (fun hz => ?_) (fun hz11 => ?_)
                        · refine s_tabIn (tgt := 181) hC 11 dX4_count_1 h1 hz (by decide) (by decide) rfl (by decide) ?_
                          refine s_sub (L' := [(0, .ref (x + 0))]) [0] rfl ?_
                          refine s_aload_n hC dX4_count_181 rfl 0 rfl ?_
                          refine s_get hC hK (fun H h => (hI H h).x) (by decide) o_X rfl q_w_X4 1 (by decide) q_f_X4_19 rfl dX4_count_182 ?_
                          refine s_get hC hK (fun H h => (hI H h).x) (by decide) o_Hi rfl q_w_X1 1 (by decide) q_f_X4_189 rfl dX4_count_185 ?_
                          exact s_iret hC hr dX4_count_188 (fun H hH => ⟨rfl, (hσ 6 1), hH⟩)
                        · refine s_tabOut (tgt := 189) hC dX4_count_1 h1 (by omega) (by decide) ?_
                          refine s_sub (L' := []) [] rfl ?_
                          refine s_bipush hC dX4_count_189 (by decide) ?_
                          exact s_iret hC hr dX4_count_191 (fun H hH => ⟨rfl, (inR_c _ rfl), hH⟩)
set_option maxHeartbeats 4000000 in
set_option maxRecDepth 100000 in
theorem m_X4_key {l : Launch} {G : Gt} {x y0 nb : Nat} {σ : Blk} {B : Nat → Blk}  {I : Heap → Prop} (h5 : x + 205 ≤ y0) (hI : ∀ H, I H → WX G x y0 σ B nb H) (hσ : Rg σ) (hB : RgB B) {a1 : Int} (h1 : inR a1) : MetS l yX4_key cX4_key 4 (some .int) { frames := 2, cells := 0, slots := 0, locals := 43 } G [.ref (x + 0), vI a1] I (poP I) (fun _ => False) 0 0 (g_X4_key σ B nb a1) := by
  refine met_of (by decide) (Nat.le_of_ble_eq_true rfl) ?_
  intro p e s m below meth c hC hKA hr _
  have hK := hKA.1
  unfold g_X4_key
  refine s_sub (L' := [(0, .ref (x + 0)), (1, vI a1)]) [0, 1] rfl ?_
  refine s_iconst hC dX4_key_0 ?_
  refine s_istore_n (L' := [(2, vI 0), (0, .ref (x + 0)), (1, vI a1)]) hC dX4_key_1 rfl (by decide) rfl ?_
  refine s_iconst hC dX4_key_2 ?_
  refine s_istore_n (L' := [(3, vI 0), (2, vI 0), (0, .ref (x + 0)), (1, vI a1)]) hC dX4_key_3 rfl (by decide) rfl ?_
  refine s_sub (L' := [(0, .ref (x + 0)), (1, vI a1), (2, vI 0), (3, vI 0)]) [2, 3, 1, 0] rfl ?_
  refine u_lp_II (F := g_X4_key_L4 σ B nb a1) 4 (fun x1 x2 => [(0, .ref (x + 0)), (1, vI a1), (2, vI x1), (3, vI x2)]) (fun _ _ => rfl) (fun n ih4 x1 x2 hx1 hx2 => ?_) fu 0 0 (inR_c _ rfl) (inR_c _ rfl)
  rw [g_X4_key_L4]
  refine s_iload_n hC dX4_key_4 rfl 3 rfl ?_
  refine s_bipush hC dX4_key_5 (by decide) ?_
  refine s_icmp_ge (tgt := 37) hC dX4_key_7 (by decide) hx2 (inR_c _ rfl) ?_ ?_
  · refine s_sub (L' := []) [] rfl ?_
    refine s_iconst hC dX4_key_37 ?_
    exact s_iret hC hr dX4_key_38 (fun H hH => ⟨rfl, (inR_c _ rfl), hH⟩)
  · refine s_aload_n hC dX4_key_10 rfl 0 rfl ?_
    refine s_get hC hK (fun H h => (hI H h).x) (by decide) o_X rfl q_w_X4 3 (by decide) q_f_X4_30 rfl dX4_key_11 ?_
    refine u_gk (hσ 0 3) (fun q3 hq3 hq3r => ?_)
    refine s_iload_n hC dX4_key_14 rfl 3 rfl ?_
    refine s_callV_R (As := [vI x2]) (rest := []) (a := ad x y0 q3 + 0) hC hKA 1 (m_X0_rowOf (b := ad x y0 q3) (fun H h => (hI H h).book hq3) (hB q3) hx2) rfl (cb_of hC 1 q_c_yX0_rowOf q_i_X0 q_m_X4_108 rfl rfl dd_yX0_rowOf ⟨Nat.le_of_ble_eq_true rfl, Nat.le_of_ble_eq_true rfl⟩) q_i_yX0_rowOf q_x_yX0_rowOf (s_recv hK (fun H h => (hI H h).book hq3) (by decide) o_Book rfl) rfl (Nat.le_of_ble_eq_true rfl) dX4_key_15 ⟨Nat.le_of_ble_eq_true rfl, Nat.le_of_ble_eq_true rfl⟩ (fun r4 => ?_)
    refine u_jp_I 0 0 31 (fun x6 => [(0, .ref (x + 0)), (1, vI a1), (2, vI x6), (3, vI x2)]) (fun x6 => []) (fun x6 hx6 => ?_) (fun j5 hj5 => ?_)
    · refine s_iincK hC dX4_key_31 3 rfl (by decide) (fun v7 => [(3, vI v7), (0, .ref (x + 0)), (1, vI a1), (2, vI x6)]) (fun _ => rfl) (fun v7 hv7 => ?_)
      refine s_goto (tgt := 4) hC dX4_key_34 (by decide) ?_
      refine s_sub (L' := [(0, .ref (x + 0)), (1, vI a1), (2, vI x6), (3, vI v7)]) [1, 2, 3, 0] rfl ?_
      exact ih4 x6 v7 hx6 hv7
    · refine s_ifnullR (tgt := 31) hC dX4_key_18 (by decide) ?_ ?_
      · exact hj5 x1 hx1
      · refine s_gkR (fun q8 hq8 eq8 => ?_)
        subst eq8
        refine s_iload_n hC dX4_key_21 rfl 2 rfl ?_
        refine s_iload_n hC dX4_key_22 rfl 1 rfl ?_
        refine s_icmp_ne (tgt := 28) hC dX4_key_23 (by decide) hx1 h1 ?_ ?_
        · refine s_iincK hC dX4_key_28 2 rfl (by decide) (fun v9 => [(2, vI v9), (0, .ref (x + 0)), (1, vI a1), (3, vI x2)]) (fun _ => rfl) (fun v9 hv9 => ?_)
          refine s_sub (L' := [(0, .ref (x + 0)), (1, vI a1), (2, vI v9), (3, vI x2)]) [1, 2, 0, 3] rfl ?_
          exact hj5 v9 hv9
        · refine s_sub (L' := [(3, vI x2)]) [3] rfl ?_
          refine s_iload_n hC dX4_key_26 rfl 0 rfl ?_
          exact s_iret hC hr dX4_key_27 (fun H hH => ⟨rfl, hx2, hH⟩)
set_option maxHeartbeats 4000000 in
set_option maxRecDepth 100000 in
theorem m_X4_ifPacked {l : Launch} {G : Gt} {x y0 nb : Nat} {σ : Blk} {B : Nat → Blk}  {V : Blk → (Nat → Blk) → Nat → Heap → Prop} (h5 : x + 205 ≤ y0) (hV : WV G x y0 V) (hσ : Rg σ) (hB : RgB B) (hn : 2 ≤ nb) {a1 : Int} (h1 : inR a1) {a2 : Int} (h2 : inR a2) : MetS l yX4_ifPacked cX4_ifPacked 3 (some .int) { frames := 7, cells := 0, slots := 0, locals := 158 } G [.ref (x + 0), vI a1, vI a2] (V σ B nb) (poT V) (Rx x y0) 0 0 (g_X4_ifPacked σ B nb a1 a2) := by
  refine met_of (by decide) (Nat.le_of_ble_eq_true rfl) ?_
  intro p e s m below meth c hC hKA hr _
  have hK := hKA.1
  unfold g_X4_ifPacked
  refine s_sub (L' := [(0, .ref (x + 0)), (1, vI a1), (2, vI a2)]) [0, 1, 2] rfl ?_
  refine s_iload_n hC dX4_ifPacked_0 rfl 1 rfl ?_
  refine s_if_lt (tgt := 19) hC dX4_ifPacked_1 (by decide) h1 ?_ ?_
  · refine s_sub (L' := []) [] rfl ?_
    refine s_bipush hC dX4_ifPacked_19 (by decide) ?_
    refine s_widen (k' := 0) (n' := 0) (Nat.le_of_ble_eq_true rfl) (Nat.le_of_ble_eq_true rfl) ?_
    exact s_iret hC hr dX4_ifPacked_21 (fun H hH => ⟨rfl, (inR_c _ rfl), hσ, hB, hn, hH⟩)
  · refine s_iload_n hC dX4_ifPacked_4 rfl 1 rfl ?_
    refine s_bipush hC dX4_ifPacked_5 (by decide) ?_
    refine s_icmp_gt (tgt := 19) hC dX4_ifPacked_7 (by decide) h1 (inR_c _ rfl) ?_ ?_
    · refine s_sub (L' := []) [] rfl ?_
      refine s_bipush hC dX4_ifPacked_19 (by decide) ?_
      refine s_widen (k' := 0) (n' := 0) (Nat.le_of_ble_eq_true rfl) (Nat.le_of_ble_eq_true rfl) ?_
      exact s_iret hC hr dX4_ifPacked_21 (fun H hH => ⟨rfl, (inR_c _ rfl), hσ, hB, hn, hH⟩)
    · refine s_iload_n hC dX4_ifPacked_10 rfl 2 rfl ?_
      refine s_if_lt (tgt := 19) hC dX4_ifPacked_11 (by decide) h2 ?_ ?_
      · refine s_sub (L' := []) [] rfl ?_
        refine s_bipush hC dX4_ifPacked_19 (by decide) ?_
        refine s_widen (k' := 0) (n' := 0) (Nat.le_of_ble_eq_true rfl) (Nat.le_of_ble_eq_true rfl) ?_
        exact s_iret hC hr dX4_ifPacked_21 (fun H hH => ⟨rfl, (inR_c _ rfl), hσ, hB, hn, hH⟩)
      · refine s_iload_n hC dX4_ifPacked_14 rfl 2 rfl ?_
        refine s_iconst hC dX4_ifPacked_15 ?_
        refine s_icmp_le (tgt := 22) hC dX4_ifPacked_16 (by decide) h2 (inR_c _ rfl) ?_ ?_
        · refine s_aload_n hC dX4_ifPacked_22 rfl 0 rfl ?_
          refine s_iload_n hC dX4_ifPacked_23 rfl 1 rfl ?_
          refine u_up4 (As := [vI a1]) (rest := []) (a := x + 0) (mc := 0) (ms := 0) hC hKA 1 (m_X4_tryPacking h5 hV hσ hB hn h1) (fun _ h => h) rfl (cb_of hC 1 q_c_yX4_tryPacking q_i_X4 q_m_X4_120 rfl rfl dd_yX4_tryPacking ⟨Nat.le_of_ble_eq_true rfl, Nat.le_of_ble_eq_true rfl⟩) q_i_yX4_tryPacking q_x_yX4_tryPacking (s_recv hK (fun H h => ((hV.1 σ B nb) H h).x) (by decide) o_X rfl) rfl (Nat.le_of_ble_eq_true rfl) dX4_ifPacked_24 ⟨Nat.le_of_ble_eq_true rfl, Nat.le_of_ble_eq_true rfl⟩ (fun r4 σ1 B2 N3 hr4 hσ1 hB2 hN3 => ?_)
          refine s_if_ne (tgt := 33) hC dX4_ifPacked_27 (by decide) hr4 ?_ ?_
          · refine s_sub (L' := [(0, .ref (x + 0)), (2, vI a2)]) [0, 2] rfl ?_
            refine s_iload_n hC dX4_ifPacked_33 rfl 1 rfl ?_
            refine s_if_ne (tgt := 45) hC dX4_ifPacked_34 (by decide) h2 ?_ ?_
            · refine s_iload_n hC dX4_ifPacked_45 rfl 1 rfl ?_
              refine s_iconst hC dX4_ifPacked_46 ?_
              refine s_icmp_ne (tgt := 63) hC dX4_ifPacked_47 (by decide) h2 (inR_c _ rfl) ?_ ?_
              · refine s_sub (L' := [(0, .ref (x + 0))]) [0] rfl ?_
                refine s_aload_n hC dX4_ifPacked_63 rfl 0 rfl ?_
                refine s_get hC hK (fun H h => ((hV.1 σ1 B2 N3) H h).x) (by decide) o_X rfl q_w_X4 4 (by decide) q_f_X4_34 rfl dX4_ifPacked_64 ?_
                refine u_gk (hσ1 0 4) (fun q5 hq5 hq5r => ?_)
                refine s_get (b := ad x y0 q5) hC hK (fun H h => ((hV.1 σ1 B2 N3) H h).book hq5) (by decide) o_Book rfl q_w_X0 3 (by decide) q_f_X4_123 rfl dX4_ifPacked_67 ?_
                refine s_iconst hC dX4_ifPacked_70 ?_
                refine s_callV_P (As := [vI 2]) (rest := []) (a := ad x y0 q5 + 1) hC hKA 1 (m_X3_thingsInAll (b := ad x y0 q5) (fun H h => ((hV.1 σ1 B2 N3) H h).book hq5) (hB2 q5) (inR_c _ rfl)) rfl (cb_of hC 1 q_c_yX3_thingsInAll q_i_X3 q_m_X4_174 rfl rfl dd_yX3_thingsInAll ⟨Nat.le_of_ble_eq_true rfl, Nat.le_of_ble_eq_true rfl⟩) q_i_yX3_thingsInAll q_x_yX3_thingsInAll (s_recv hK (fun H h => ((hV.1 σ1 B2 N3) H h).book hq5) (by decide) o_Pages rfl) rfl (Nat.le_of_ble_eq_true rfl) dX4_ifPacked_71 ⟨Nat.le_of_ble_eq_true rfl, Nat.le_of_ble_eq_true rfl⟩ (fun r6 hr6 => ?_)
                refine s_sub (L' := []) [] rfl ?_
                refine s_widen (k' := 0) (n' := 0) (Nat.le_of_ble_eq_true rfl) (Nat.le_of_ble_eq_true rfl) ?_
                exact s_iret hC hr dX4_ifPacked_74 (fun H hH => ⟨rfl, hr6, hσ1, hB2, hN3, hH⟩)
              · refine s_sub (L' := [(0, .ref (x + 0))]) [0] rfl ?_
                refine s_aload_n hC dX4_ifPacked_50 rfl 0 rfl ?_
                refine s_get hC hK (fun H h => ((hV.1 σ1 B2 N3) H h).x) (by decide) o_X rfl q_w_X4 4 (by decide) q_f_X4_34 rfl dX4_ifPacked_51 ?_
                refine u_gk (hσ1 0 4) (fun q7 hq7 hq7r => ?_)
                refine s_get (b := ad x y0 q7) hC hK (fun H h => ((hV.1 σ1 B2 N3) H h).book hq7) (by decide) o_Book rfl q_w_X0 3 (by decide) q_f_X4_123 rfl dX4_ifPacked_54 ?_
                refine s_callV_P (As := []) (rest := []) (a := ad x y0 q7 + 1) hC hKA 0 (m_X3_pagesInUse (b := ad x y0 q7) (fun H h => ((hV.1 σ1 B2 N3) H h).book hq7) (hB2 q7)) rfl (cb_of hC 0 q_c_yX3_pagesInUse q_i_X3 q_m_X4_127 rfl rfl dd_yX3_pagesInUse ⟨Nat.le_of_ble_eq_true rfl, Nat.le_of_ble_eq_true rfl⟩) q_i_yX3_pagesInUse q_x_yX3_pagesInUse (s_recv hK (fun H h => ((hV.1 σ1 B2 N3) H h).book hq7) (by decide) o_Pages rfl) rfl (Nat.le_of_ble_eq_true rfl) dX4_ifPacked_57 ⟨Nat.le_of_ble_eq_true rfl, Nat.le_of_ble_eq_true rfl⟩ (fun r8 hr8 => ?_)
                refine s_goto (tgt := 74) hC dX4_ifPacked_60 (by decide) ?_
                refine s_sub (L' := []) [] rfl ?_
                refine s_widen (k' := 0) (n' := 0) (Nat.le_of_ble_eq_true rfl) (Nat.le_of_ble_eq_true rfl) ?_
                exact s_iret hC hr dX4_ifPacked_74 (fun H hH => ⟨rfl, hr8, hσ1, hB2, hN3, hH⟩)
            · refine s_sub (L' := [(0, .ref (x + 0))]) [0] rfl ?_
              refine s_aload_n hC dX4_ifPacked_37 rfl 0 rfl ?_
              refine s_get hC hK (fun H h => ((hV.1 σ1 B2 N3) H h).x) (by decide) o_X rfl q_w_X4 4 (by decide) q_f_X4_34 rfl dX4_ifPacked_38 ?_
              refine u_gk (hσ1 0 4) (fun q9 hq9 hq9r => ?_)
              refine s_callV_P (As := []) (rest := []) (a := ad x y0 q9 + 0) hC hKA 0 (m_X0_costInAll (b := ad x y0 q9) (fun H h => ((hV.1 σ1 B2 N3) H h).book hq9) (hB2 q9)) rfl (cb_of hC 0 q_c_yX0_costInAll q_i_X0 q_m_X4_180 rfl rfl dd_yX0_costInAll ⟨Nat.le_of_ble_eq_true rfl, Nat.le_of_ble_eq_true rfl⟩) q_i_yX0_costInAll q_x_yX0_costInAll (s_recv hK (fun H h => ((hV.1 σ1 B2 N3) H h).book hq9) (by decide) o_Book rfl) rfl (Nat.le_of_ble_eq_true rfl) dX4_ifPacked_41 ⟨Nat.le_of_ble_eq_true rfl, Nat.le_of_ble_eq_true rfl⟩ (fun r10 hr10 => ?_)
              refine s_widen (k' := 0) (n' := 0) (Nat.le_of_ble_eq_true rfl) (Nat.le_of_ble_eq_true rfl) ?_
              exact s_iret hC hr dX4_ifPacked_44 (fun H hH => ⟨rfl, hr10, hσ1, hB2, hN3, hH⟩)
          · refine s_sub (L' := []) [] rfl ?_
            refine s_bipush hC dX4_ifPacked_30 (by decide) ?_
            refine s_widen (k' := 0) (n' := 0) (Nat.le_of_ble_eq_true rfl) (Nat.le_of_ble_eq_true rfl) ?_
            exact s_iret hC hr dX4_ifPacked_32 (fun H hH => ⟨rfl, (inR_c _ rfl), hσ1, hB2, hN3, hH⟩)
        · refine s_sub (L' := []) [] rfl ?_
          refine s_bipush hC dX4_ifPacked_19 (by decide) ?_
          refine s_widen (k' := 0) (n' := 0) (Nat.le_of_ble_eq_true rfl) (Nat.le_of_ble_eq_true rfl) ?_
          exact s_iret hC hr dX4_ifPacked_21 (fun H hH => ⟨rfl, (inR_c _ rfl), hσ, hB, hn, hH⟩)
set_option maxHeartbeats 4000000 in
set_option maxRecDepth 100000 in
theorem m_X4_bestHead {l : Launch} {G : Gt} {x y0 nb : Nat} {σ : Blk} {B : Nat → Blk}  {V : Blk → (Nat → Blk) → Nat → Heap → Prop} (h5 : x + 205 ≤ y0) (hV : WV G x y0 V) (hσ : Rg σ) (hB : RgB B) (hn : 2 ≤ nb)  : MetS l yX4_bestHead cX4_bestHead 5 (some .int) { frames := 7, cells := 0, slots := 0, locals := 158 } G [.ref (x + 0)] (V σ B nb) (poT V) (Rx x y0) 0 0 (g_X4_bestHead σ B nb) := by
  refine met_of (by decide) (Nat.le_of_ble_eq_true rfl) ?_
  intro p e s m below meth c hC hKA hr _
  have hK := hKA.1
  unfold g_X4_bestHead
  refine s_sub (L' := [(0, .ref (x + 0))]) [0] rfl ?_
  refine s_aload_n hC dX4_bestHead_0 rfl 0 rfl ?_
  refine s_get hC hK (fun H h => ((hV.1 σ B nb) H h).x) (by decide) o_X rfl q_w_X4 3 (by decide) q_f_X4_30 rfl dX4_bestHead_1 ?_
  refine u_gk (hσ 0 3) (fun q1 hq1 hq1r => ?_)
  refine s_get (b := ad x y0 q1) hC hK (fun H h => ((hV.1 σ B nb) H h).book hq1) (by decide) o_Book rfl q_w_X0 2 (by decide) q_f_X4_173 rfl dX4_bestHead_4 ?_
  refine s_if_ne (tgt := 13) hC dX4_bestHead_7 (by decide) (hB q1 0 2) ?_ ?_
  · refine s_bipush hC dX4_bestHead_13 (by decide) ?_
    refine s_istore_n (L' := [(1, vI ((-6))), (0, .ref (x + 0))]) hC dX4_bestHead_15 rfl (by decide) rfl ?_
    refine s_iconst hC dX4_bestHead_16 ?_
    refine s_istore_n (L' := [(2, vI 0), (1, vI ((-6))), (0, .ref (x + 0))]) hC dX4_bestHead_17 rfl (by decide) rfl ?_
    refine s_iconst hC dX4_bestHead_18 ?_
    refine s_istore_n (L' := [(3, vI 0), (2, vI 0), (1, vI ((-6))), (0, .ref (x + 0))]) hC dX4_bestHead_19 rfl (by decide) rfl ?_
    refine s_sub (L' := [(0, .ref (x + 0)), (1, vI ((-6))), (2, vI 0), (3, vI 0)]) [3, 2, 1, 0] rfl ?_
    refine u_lp_IIIT (V := V) (F := g_X4_bestHead_L20) 20 (fun x2 x3 x4 => [(0, .ref (x + 0)), (1, vI x2), (2, vI x3), (3, vI x4)]) (fun _ _ _ _ _ _ => rfl) (fun n ih20 x2 x3 x4 σ5 B6 N7 hx2 hx3 hx4 hσ5 hB6 hN7 => ?_) fu ((-6)) 0 0 σ B nb (inR_c _ rfl) (inR_c _ rfl) (inR_c _ rfl) hσ hB hn
    rw [g_X4_bestHead_L20]
    refine s_iload_n hC dX4_bestHead_20 rfl 3 rfl ?_
    refine s_bipush hC dX4_bestHead_21 (by decide) ?_
    refine s_icmp_gt (tgt := 66) hC dX4_bestHead_23 (by decide) hx4 (inR_c _ rfl) ?_ ?_
    · refine s_sub (L' := [(1, vI x2)]) [1] rfl ?_
      refine s_iload_n hC dX4_bestHead_66 rfl 0 rfl ?_
      refine s_widen (k' := 0) (n' := 0) (Nat.le_of_ble_eq_true rfl) (Nat.le_of_ble_eq_true rfl) ?_
      exact s_iret hC hr dX4_bestHead_67 (fun H hH => ⟨rfl, hx2, hσ5, hB6, hN7, hH⟩)
    · refine s_aload_n hC dX4_bestHead_26 rfl 0 rfl ?_
      refine s_iload_n hC dX4_bestHead_27 rfl 3 rfl ?_
      refine u_up4 (As := [vI x4]) (rest := []) (a := x + 0) (mc := 0) (ms := 0) hC hKA 1 (m_X4_tryPacking h5 hV hσ5 hB6 hN7 hx4) (fun _ h => h) rfl (cb_of hC 1 q_c_yX4_tryPacking q_i_X4 q_m_X4_120 rfl rfl dd_yX4_tryPacking ⟨Nat.le_of_ble_eq_true rfl, Nat.le_of_ble_eq_true rfl⟩) q_i_yX4_tryPacking q_x_yX4_tryPacking (s_recv hK (fun H h => ((hV.1 σ5 B6 N7) H h).x) (by decide) o_X rfl) rfl (Nat.le_of_ble_eq_true rfl) dX4_bestHead_28 ⟨Nat.le_of_ble_eq_true rfl, Nat.le_of_ble_eq_true rfl⟩ (fun r11 σ8 B9 N10 hr11 hσ8 hB9 hN10 => ?_)
      refine u_jp_II 0 0 60 (fun x13 x14 => [(0, .ref (x + 0)), (1, vI x13), (2, vI x14), (3, vI x4)]) (fun x13 x14 => []) (fun x13 x14 hx13 hx14 => ?_) (fun j12 hj12 => ?_)
      · refine s_iincK hC dX4_bestHead_60 3 rfl (by decide) (fun v15 => [(3, vI v15), (0, .ref (x + 0)), (1, vI x13), (2, vI x14)]) (fun _ => rfl) (fun v15 hv15 => ?_)
        refine s_goto (tgt := 20) hC dX4_bestHead_63 (by decide) ?_
        refine s_sub (L' := [(0, .ref (x + 0)), (1, vI x13), (2, vI x14), (3, vI v15)]) [1, 2, 3, 0] rfl ?_
        exact ih20 x13 x14 v15 σ8 B9 N10 hx13 hx14 hv15 hσ8 hB9 hN10
      · refine s_if_eq (tgt := 60) hC dX4_bestHead_31 (by decide) hr11 ?_ ?_
        · exact hj12 x2 x3 hx2 hx3
        · refine s_aload_n hC dX4_bestHead_34 rfl 0 rfl ?_
          refine s_get hC hK (fun H h => ((hV.1 σ8 B9 N10) H h).x) (by decide) o_X rfl q_w_X4 4 (by decide) q_f_X4_34 rfl dX4_bestHead_35 ?_
          refine u_gk (hσ8 0 4) (fun q16 hq16 hq16r => ?_)
          refine s_callV_P (As := []) (rest := []) (a := ad x y0 q16 + 0) hC hKA 0 (m_X0_costInAll (b := ad x y0 q16) (fun H h => ((hV.1 σ8 B9 N10) H h).book hq16) (hB9 q16)) rfl (cb_of hC 0 q_c_yX0_costInAll q_i_X0 q_m_X4_180 rfl rfl dd_yX0_costInAll ⟨Nat.le_of_ble_eq_true rfl, Nat.le_of_ble_eq_true rfl⟩) q_i_yX0_costInAll q_x_yX0_costInAll (s_recv hK (fun H h => ((hV.1 σ8 B9 N10) H h).book hq16) (by decide) o_Book rfl) rfl (Nat.le_of_ble_eq_true rfl) dX4_bestHead_38 ⟨Nat.le_of_ble_eq_true rfl, Nat.le_of_ble_eq_true rfl⟩ (fun r17 hr17 => ?_)
          refine s_istore (L' := [(4, vI r17), (0, .ref (x + 0)), (1, vI x2), (2, vI x3), (3, vI x4)]) hC dX4_bestHead_41 (by decide) rfl ?_
          refine s_iload_n hC dX4_bestHead_43 rfl 2 rfl ?_
          refine s_bipush hC dX4_bestHead_44 (by decide) ?_
          refine u_jp_ 0 0 55 ([(0, .ref (x + 0)), (3, vI x4), (4, vI r17)]) ([]) ?_ (fun j18 hj18 => ?_)
          · refine s_iload_n hC dX4_bestHead_55 rfl 1 rfl ?_
            refine s_istore_n (L' := [(1, vI x4), (0, .ref (x + 0)), (3, vI x4), (4, vI r17)]) hC dX4_bestHead_56 rfl (by decide) rfl ?_
            refine s_iload hC dX4_bestHead_57 3 rfl ?_
            refine s_istore_n (L' := [(2, vI r17), (1, vI x4), (0, .ref (x + 0)), (3, vI x4), (4, vI r17)]) hC dX4_bestHead_59 rfl (by decide) rfl ?_
            refine s_sub (L' := [(0, .ref (x + 0)), (1, vI x4), (2, vI r17), (3, vI x4)]) [2, 1, 0, 3] rfl ?_
            exact hj12 x4 r17 hx4 hr17
          · refine s_icmp_eq (tgt := 55) hC dX4_bestHead_46 (by decide) hx2 (inR_c _ rfl) ?_ ?_
            · refine s_sub (L' := [(0, .ref (x + 0)), (3, vI x4), (4, vI r17)]) [1, 4, 0] rfl ?_
              exact hj18
            · refine s_sub (L' := [(0, .ref (x + 0)), (1, vI x2), (2, vI x3), (3, vI x4), (4, vI r17)]) [1, 2, 3, 4, 0] rfl ?_
              refine s_iload hC dX4_bestHead_49 4 rfl ?_
              refine s_iload_n hC dX4_bestHead_51 rfl 2 rfl ?_
              refine s_icmp_ge (tgt := 60) hC dX4_bestHead_52 (by decide) hr17 hx3 ?_ ?_
              · refine s_sub (L' := [(0, .ref (x + 0)), (1, vI x2), (2, vI x3), (3, vI x4)]) [0, 1, 2, 3] rfl ?_
                exact hj12 x2 x3 hx2 hx3
              · refine s_sub (L' := [(0, .ref (x + 0)), (3, vI x4), (4, vI r17)]) [0, 3, 4] rfl ?_
                exact hj18
  · refine s_sub (L' := []) [] rfl ?_
    refine s_bipush hC dX4_bestHead_10 (by decide) ?_
    refine s_widen (k' := 0) (n' := 0) (Nat.le_of_ble_eq_true rfl) (Nat.le_of_ble_eq_true rfl) ?_
    exact s_iret hC hr dX4_bestHead_12 (fun H hH => ⟨rfl, (inR_c _ rfl), hσ, hB, hn, hH⟩)
set_option maxHeartbeats 4000000 in
set_option maxRecDepth 100000 in
theorem m_X4_most {l : Launch} {G : Gt} {x y0 nb : Nat} {σ : Blk} {B : Nat → Blk}  {V : Blk → (Nat → Blk) → Nat → Heap → Prop} (h5 : x + 205 ≤ y0) (hV : WV G x y0 V) (hσ : Rg σ) (hB : RgB B) (hn : 2 ≤ nb) {a1 : Int} (h1 : inR a1) : MetS l yX4_most cX4_most 3 (some .int) { frames := 6, cells := 0, slots := 0, locals := 139 } G [.ref (x + 0), vI a1] (V σ B nb) (poT V) (Rx x y0) 0 0 (g_X4_most σ B nb a1) := by
  refine met_of (by decide) (Nat.le_of_ble_eq_true rfl) ?_
  intro p e s m below meth c hC hKA hr _
  have hK := hKA.1
  unfold g_X4_most
  refine s_sub (L' := [(0, .ref (x + 0)), (1, vI a1)]) [0, 1] rfl ?_
  refine s_iload_n hC dX4_most_0 rfl 1 rfl ?_
  refine s_if_lt (tgt := 10) hC dX4_most_1 (by decide) h1 ?_ ?_
  · refine s_sub (L' := []) [] rfl ?_
    refine s_bipush hC dX4_most_10 (by decide) ?_
    refine s_widen (k' := 0) (n' := 0) (Nat.le_of_ble_eq_true rfl) (Nat.le_of_ble_eq_true rfl) ?_
    exact s_iret hC hr dX4_most_12 (fun H hH => ⟨rfl, (inR_c _ rfl), hσ, hB, hn, hH⟩)
  · refine s_iload_n hC dX4_most_4 rfl 1 rfl ?_
    refine s_bipush hC dX4_most_5 (by decide) ?_
    refine s_icmp_lt (tgt := 13) hC dX4_most_7 (by decide) h1 (inR_c _ rfl) ?_ ?_
    · refine s_bipush hC dX4_most_13 (by decide) ?_
      refine s_istore_n (L' := [(2, vI 40), (0, .ref (x + 0)), (1, vI a1)]) hC dX4_most_15 rfl (by decide) rfl ?_
      refine s_sub (L' := [(0, .ref (x + 0)), (1, vI a1), (2, vI 40)]) [1, 2, 0] rfl ?_
      refine u_lp_IT (V := V) (F := g_X4_most_L16 a1) 16 (fun x1 => [(0, .ref (x + 0)), (1, vI a1), (2, vI x1)]) (fun _ _ _ _ => rfl) (fun n ih16 x1 σ2 B3 N4 hx1 hσ2 hB3 hN4 => ?_) fu 40 σ B nb (inR_c _ rfl) hσ hB hn
      rw [g_X4_most_L16]
      refine s_iload_n hC dX4_most_16 rfl 2 rfl ?_
      refine s_if_lt (tgt := 51) hC dX4_most_17 (by decide) hx1 ?_ ?_
      · refine s_sub (L' := []) [] rfl ?_
        refine s_bipush hC dX4_most_51 (by decide) ?_
        refine s_widen (k' := 0) (n' := 0) (Nat.le_of_ble_eq_true rfl) (Nat.le_of_ble_eq_true rfl) ?_
        exact s_iret hC hr dX4_most_53 (fun H hH => ⟨rfl, (inR_c _ rfl), hσ2, hB3, hN4, hH⟩)
      · refine s_aload_n hC dX4_most_20 rfl 0 rfl ?_
        refine s_get hC hK (fun H h => ((hV.1 σ2 B3 N4) H h).x) (by decide) o_X rfl q_w_X4 4 (by decide) q_f_X4_34 rfl dX4_most_21 ?_
        refine u_gk (hσ2 0 4) (fun q5 hq5 hq5r => ?_)
        refine s_aload_n hC dX4_most_24 rfl 0 rfl ?_
        refine s_get hC hK (fun H h => ((hV.1 σ2 B3 N4) H h).x) (by decide) o_X rfl q_w_X4 3 (by decide) q_f_X4_30 rfl dX4_most_25 ?_
        refine u_gk (hσ2 0 3) (fun q6 hq6 hq6r => ?_)
        refine s_ne (fun hne28 => ?_)
        refine u_callU (As := [.ref (ad x y0 q6 + 0)]) (rest := []) (q := q5) (off := 0) hC hKA (fun _ h => h) h5 hB3 1 (m_X0_copyFrom (b := ad x y0 q5) (J := fun β => V σ2 (ub B3 q5 β) N4) (hV.wb hq5) (hB3 q5) (fun β H h => by have h9 := (hV.1 _ _ _ _ h).book hq6; have e9 : ub B3 q5 β q6 = B3 q6 := if_neg (fun z => hne28 z.symm); rw [e9] at h9; exact h9) (hB3 q6)) rfl (cb_of hC 1 q_c_yX0_copyFrom q_i_X0 q_m_X4_69 rfl rfl dd_yX0_copyFrom ⟨Nat.le_of_ble_eq_true rfl, Nat.le_of_ble_eq_true rfl⟩) q_i_yX0_copyFrom q_x_yX0_copyFrom (s_recv hK (fun H h => ((hV.1 σ2 B3 N4) H h).book hq5) (by decide) o_Book rfl) rfl (Nat.le_of_ble_eq_true rfl) dX4_most_28 ⟨Nat.le_of_ble_eq_true rfl, Nat.le_of_ble_eq_true rfl⟩ (fun B7 hB7 => ?_)
        refine s_aload_n hC dX4_most_31 rfl 0 rfl ?_
        refine s_get hC hK (fun H h => ((hV.1 σ2 B7 N4) H h).x) (by decide) o_X rfl q_w_X4 4 (by decide) q_f_X4_34 rfl dX4_most_32 ?_
        refine u_gk (hσ2 0 4) (fun q8 hq8 hq8r => ?_)
        refine s_iload_n hC dX4_most_35 rfl 1 rfl ?_
        refine s_iload_n hC dX4_most_36 rfl 2 rfl ?_
        refine u_callV (As := [vI a1, vI x1]) (rest := []) (q := q8) (off := 0) hC hKA (fun _ h => h) h5 hB7 2 (m_X0_layRow (b := ad x y0 q8) (J := fun β => V σ2 (ub B7 q8 β) N4) (hV.wb hq8) (hB7 q8) h1 hx1) rfl (cb_of hC 2 q_c_yX0_layRow q_i_X0 q_m_X4_83 rfl rfl dd_yX0_layRow ⟨Nat.le_of_ble_eq_true rfl, Nat.le_of_ble_eq_true rfl⟩) q_i_yX0_layRow q_x_yX0_layRow (s_recv hK (fun H h => ((hV.1 σ2 B7 N4) H h).book hq8) (by decide) o_Book rfl) rfl (Nat.le_of_ble_eq_true rfl) dX4_most_37 ⟨Nat.le_of_ble_eq_true rfl, Nat.le_of_ble_eq_true rfl⟩ (fun r10 B9 hB9 => ?_)
        refine s_ifnullR (tgt := 45) hC dX4_most_40 (by decide) ?_ ?_
        · refine s_iincK hC dX4_most_45 2 rfl (by decide) (fun v11 => [(2, vI v11), (0, .ref (x + 0)), (1, vI a1)]) (fun _ => rfl) (fun v11 hv11 => ?_)
          refine s_goto (tgt := 16) hC dX4_most_48 (by decide) ?_
          refine s_sub (L' := [(0, .ref (x + 0)), (1, vI a1), (2, vI v11)]) [1, 2, 0] rfl ?_
          exact ih16 v11 σ2 B9 N4 hv11 hσ2 hB9 hN4
        · refine s_gkR (fun q12 hq12 eq12 => ?_)
          subst eq12
          refine s_sub (L' := [(2, vI x1)]) [2] rfl ?_
          refine s_iload_n hC dX4_most_43 rfl 0 rfl ?_
          refine s_widen (k' := 0) (n' := 0) (Nat.le_of_ble_eq_true rfl) (Nat.le_of_ble_eq_true rfl) ?_
          exact s_iret hC hr dX4_most_44 (fun H hH => ⟨rfl, hx1, hσ2, hB9, hN4, hH⟩)
    · refine s_sub (L' := []) [] rfl ?_
      refine s_bipush hC dX4_most_10 (by decide) ?_
      refine s_widen (k' := 0) (n' := 0) (Nat.le_of_ble_eq_true rfl) (Nat.le_of_ble_eq_true rfl) ?_
      exact s_iret hC hr dX4_most_12 (fun H hH => ⟨rfl, (inR_c _ rfl), hσ, hB, hn, hH⟩)
set_option maxHeartbeats 4000000 in
set_option maxRecDepth 100000 in
theorem m_X4_signOf {l : Launch} {G : Gt} {I : Heap → Prop} {a1 : Int64} {a2 : Int} (h2 : inR a2) : MetS l yX4_signOf cX4_signOf 3 (some .int) { frames := 0, cells := 0, slots := 0, locals := 0 } G [.long a1, vI a2] I (poP I) (fun _ => False) 0 0 (g_X4_signOf a1 a2) := by
  refine met_of (by decide) (Nat.le_of_ble_eq_true rfl) ?_
  intro p e s m below meth c hC hKA hr _
  have hK := hKA.1
  unfold g_X4_signOf
  refine s_sub (L' := [(0, .long a1), (2, vI a2)]) [0, 1] rfl ?_
  refine s_lload_n hC dX4_signOf_0 rfl 0 rfl ?_
  refine s_bipush hC dX4_signOf_1 (by decide) ?_
  refine s_iload_n hC dX4_signOf_3 rfl 1 rfl ?_
  refine s_imul hC dX4_signOf_4 ?_
  refine s_lushr hC dX4_signOf_5 ?_
  refine s_l2i hC dX4_signOf_6 ?_
  refine s_sipush hC dX4_signOf_7 (by decide) ?_
  refine s_iand hC dX4_signOf_10 ?_
  exact s_iret hC hr dX4_signOf_11 (fun H hH => ⟨rfl, (i32_in _), hH⟩)
set_option maxHeartbeats 4000000 in
set_option maxRecDepth 100000 in
theorem m_X4_signsIn {l : Launch} {G : Gt} {I : Heap → Prop} {a1 : Int64} : MetS l yX4_signsIn cX4_signsIn 4 (some .int) { frames := 1, cells := 0, slots := 0, locals := 22 } G [.long a1] I (poP I) (fun _ => False) 0 0 (g_X4_signsIn a1) := by
  refine met_of (by decide) (Nat.le_of_ble_eq_true rfl) ?_
  intro p e s m below meth c hC hKA hr _
  have hK := hKA.1
  unfold g_X4_signsIn
  refine s_sub (L' := [(0, .long a1)]) [0] rfl ?_
  refine s_iconst hC dX4_signsIn_0 ?_
  refine s_istore_n (L' := [(2, vI 0), (0, .long a1)]) hC dX4_signsIn_1 rfl (by decide) rfl ?_
  refine s_sub (L' := [(0, .long a1), (2, vI 0)]) [1, 0] rfl ?_
  refine s_jp_I 42 (fun x2 => [(0, .long a1), (2, vI x2)]) (fun x2 => []) (fun x2 hx2 => ?_) (fun j1 hj1 => ?_)
  · refine s_iload_n hC dX4_signsIn_42 rfl 1 rfl ?_
    refine s_bipush hC dX4_signsIn_43 (by decide) ?_
    refine s_jp_I 64 (fun x4 => [(2, vI x2)]) (fun x4 => [vI x4]) (fun x4 hx4 => ?_) (fun j3 hj3 => ?_)
    · refine s_istore_n (L' := [(3, vI x4), (2, vI x2)]) hC dX4_signsIn_64 rfl (by decide) rfl ?_
      refine s_iload_n hC dX4_signsIn_65 rfl 0 rfl ?_
      refine s_if_eq (tgt := 73) hC dX4_signsIn_66 (by decide) hx4 ?_ ?_
      · refine s_sub (L' := [(2, vI x2)]) [1] rfl ?_
        refine s_iload_n hC dX4_signsIn_73 rfl 0 rfl ?_
        refine s_sub (L' := []) [] rfl ?_
        exact s_iret hC hr dX4_signsIn_74 (fun H hH => ⟨rfl, hx2, hH⟩)
      · refine s_sub (L' := []) [] rfl ?_
        refine s_iconst hC dX4_signsIn_69 ?_
        refine s_goto (tgt := 74) hC dX4_signsIn_70 (by decide) ?_
        exact s_iret hC hr dX4_signsIn_74 (fun H hH => ⟨rfl, (inR_c _ rfl), hH⟩)
    · refine s_icmp_ge (tgt := 63) hC dX4_signsIn_45 (by decide) hx2 (inR_c _ rfl) ?_ ?_
      · refine s_sub (L' := [(2, vI x2)]) [1] rfl ?_
        refine s_iconst hC dX4_signsIn_63 ?_
        exact hj3 0 (inR_c _ rfl)
      · refine s_lload_n hC dX4_signsIn_48 rfl 0 rfl ?_
        refine s_bipush hC dX4_signsIn_49 (by decide) ?_
        refine s_iload_n hC dX4_signsIn_51 rfl 1 rfl ?_
        refine s_imul hC dX4_signsIn_52 ?_
        refine s_lushr hC dX4_signsIn_53 ?_
        refine s_lconst (v := 0) hC dX4_signsIn_54 rfl ?_
        refine s_lcmp hC dX4_signsIn_55 ?_
        refine s_if_eq (tgt := 63) hC dX4_signsIn_56 (by decide) (lcmp_in _ _) ?_ ?_
        · refine s_sub (L' := [(2, vI x2)]) [1] rfl ?_
          refine s_iconst hC dX4_signsIn_63 ?_
          exact hj3 0 (inR_c _ rfl)
        · refine s_sub (L' := [(2, vI x2)]) [1] rfl ?_
          refine s_iconst hC dX4_signsIn_59 ?_
          refine s_goto (tgt := 64) hC dX4_signsIn_60 (by decide) ?_
          exact hj3 1 (inR_c _ rfl)
  · refine s_lp_I (F := g_X4_signsIn_L2 a1 j1) 2 (fun x5 => [(0, .long a1), (2, vI x5)]) (fun _ => rfl) (fun n ih2 x5 hx5 => ?_) fu 0 (inR_c _ rfl)
    rw [g_X4_signsIn_L2]
    refine s_iload_n hC dX4_signsIn_2 rfl 1 rfl ?_
    refine s_bipush hC dX4_signsIn_3 (by decide) ?_
    refine s_icmp_ge (tgt := 42) hC dX4_signsIn_5 (by decide) hx5 (inR_c _ rfl) ?_ ?_
    · exact hj1 x5 hx5
    · refine s_lload_n hC dX4_signsIn_8 rfl 0 rfl ?_
      refine s_iload_n hC dX4_signsIn_9 rfl 1 rfl ?_
      refine s_callS_P (As := [.long a1, vI x5]) (rest := []) hC hKA 2 (m_X4_signOf (I := I) hx5) rfl (cb_of hC 2 q_c_yX4_signOf q_i_X4 q_m_X4_196 rfl rfl dd_yX4_signOf ⟨Nat.le_of_ble_eq_true rfl, Nat.le_of_ble_eq_true rfl⟩) q_s_yX4_signOf rfl (Nat.le_of_ble_eq_true rfl) dX4_signsIn_10 ⟨Nat.zero_le _, Nat.zero_le _⟩ (fun r6 hr6 => ?_)
      refine s_if_eq (tgt := 42) hC dX4_signsIn_13 (by decide) hr6 ?_ ?_
      · exact hj1 x5 hx5
      · refine s_lload_n hC dX4_signsIn_16 rfl 0 rfl ?_
        refine s_iload_n hC dX4_signsIn_17 rfl 1 rfl ?_
        refine s_callS_P (As := [.long a1, vI x5]) (rest := []) hC hKA 2 (m_X4_signOf (I := I) hx5) rfl (cb_of hC 2 q_c_yX4_signOf q_i_X4 q_m_X4_196 rfl rfl dd_yX4_signOf ⟨Nat.le_of_ble_eq_true rfl, Nat.le_of_ble_eq_true rfl⟩) q_s_yX4_signOf rfl (Nat.le_of_ble_eq_true rfl) dX4_signsIn_18 ⟨Nat.zero_le _, Nat.zero_le _⟩ (fun r7 hr7 => ?_)
        refine s_istore_n (L' := [(3, vI r7), (0, .long a1), (2, vI x5)]) hC dX4_signsIn_21 rfl (by decide) rfl ?_
        refine s_iload_n hC dX4_signsIn_22 rfl 0 rfl ?_
        refine s_bipush hC dX4_signsIn_23 (by decide) ?_
        refine s_icmp_lt (tgt := 34) hC dX4_signsIn_25 (by decide) hr7 (inR_c _ rfl) ?_ ?_
        · refine s_sub (L' := []) [] rfl ?_
          refine s_iconst hC dX4_signsIn_34 ?_
          exact s_iret hC hr dX4_signsIn_35 (fun H hH => ⟨rfl, (inR_c _ rfl), hH⟩)
        · refine s_sub (L' := [(0, .long a1), (2, vI x5), (3, vI r7)]) [1, 2, 0] rfl ?_
          refine s_iload_n hC dX4_signsIn_28 rfl 2 rfl ?_
          refine s_bipush hC dX4_signsIn_29 (by decide) ?_
          refine s_icmp_le (tgt := 36) hC dX4_signsIn_31 (by decide) hr7 (inR_c _ rfl) ?_ ?_
          · refine s_sub (L' := [(0, .long a1), (2, vI x5)]) [0, 1] rfl ?_
            refine s_iincK hC dX4_signsIn_36 1 rfl (by decide) (fun v8 => [(2, vI v8), (0, .long a1)]) (fun _ => rfl) (fun v8 hv8 => ?_)
            refine s_goto (tgt := 2) hC dX4_signsIn_39 (by decide) ?_
            refine s_sub (L' := [(0, .long a1), (2, vI v8)]) [1, 0] rfl ?_
            exact ih2 v8 hv8
          · refine s_sub (L' := []) [] rfl ?_
            refine s_iconst hC dX4_signsIn_34 ?_
            exact s_iret hC hr dX4_signsIn_35 (fun H hH => ⟨rfl, (inR_c _ rfl), hH⟩)
set_option maxHeartbeats 4000000 in
set_option maxRecDepth 100000 in
theorem m_X4_put {l : Launch} {G : Gt} {x y0 nb : Nat} {σ : Blk} {B : Nat → Blk}  {V : Blk → (Nat → Blk) → Nat → Heap → Prop} (h5 : x + 205 ≤ y0) (hV : WV G x y0 V) (hσ : Rg σ) (hB : RgB B) (hn : 2 ≤ nb) {a1 : Int64} : MetS l yX4_put cX4_put 5 (some .int) { frames := 2, cells := 0, slots := 0, locals := 45 } G [.ref (x + 0), .long a1] (V σ B nb) (poT V) (Rx x y0) 0 0 (g_X4_put σ B nb a1) := by
  refine met_of (by decide) (Nat.le_of_ble_eq_true rfl) ?_
  intro p e s m below meth c hC hKA hr _
  have hK := hKA.1
  unfold g_X4_put
  refine s_sub (L' := [(0, .ref (x + 0)), (1, .long a1)]) [0, 1] rfl ?_
  refine s_lload_n hC dX4_put_0 rfl 1 rfl ?_
  refine s_callS_P (As := [.long a1]) (rest := []) hC hKA 1 (m_X4_signsIn (I := V σ B nb)) rfl (cb_of hC 1 q_c_yX4_signsIn q_i_X4 q_m_X4_192 rfl rfl dd_yX4_signsIn ⟨Nat.le_of_ble_eq_true rfl, Nat.le_of_ble_eq_true rfl⟩) q_s_yX4_signsIn rfl (Nat.le_of_ble_eq_true rfl) dX4_put_1 ⟨Nat.zero_le _, Nat.zero_le _⟩ (fun r1 hr1 => ?_)
  refine s_istore_n (L' := [(3, vI r1), (0, .ref (x + 0)), (1, .long a1)]) hC dX4_put_4 rfl (by decide) rfl ?_
  refine s_iload_n hC dX4_put_5 rfl 0 rfl ?_
  refine s_if_ne (tgt := 12) hC dX4_put_6 (by decide) hr1 ?_ ?_
  · refine s_sub (L' := [(0, .ref (x + 0)), (1, .long a1), (3, vI r1)]) [1, 2, 0] rfl ?_
    refine s_aload_n hC dX4_put_12 rfl 0 rfl ?_
    refine s_get hC hK (fun H h => ((hV.1 σ B nb) H h).x) (by decide) o_X rfl q_w_X4 0 (by decide) q_f_X4_12 rfl dX4_put_13 ?_
    refine s_get hC hK (fun H h => ((hV.1 σ B nb) H h).x) (by decide) o_PadX rfl q_w_X2 1 (by decide) q_f_X4_66 rfl dX4_put_16 ?_
    refine s_iload_n hC dX4_put_19 rfl 2 rfl ?_
    refine s_iadd hC dX4_put_20 ?_
    refine s_bipush hC dX4_put_21 (by decide) ?_
    refine s_ck1 (fun v2 hv2 => ?_)
    refine s_icmp_le (tgt := 29) hC dX4_put_23 (by decide) hv2 (inR_c _ rfl) ?_ ?_
    · refine s_iload_n hC dX4_put_29 rfl 2 rfl ?_
      refine s_iconst hC dX4_put_30 ?_
      refine s_isub hC dX4_put_31 ?_
      refine s_ck0 (fun v3 hv3 => ?_)
      refine s_istore (L' := [(4, vI v3), (0, .ref (x + 0)), (1, .long a1), (3, vI r1)]) hC dX4_put_32 (by decide) rfl ?_
      refine s_sub (L' := [(0, .ref (x + 0)), (1, .long a1), (4, vI v3)]) [1, 2, 0] rfl ?_
      refine u_jp_T (V := V) 0 0 81 ([(0, .ref (x + 0))]) ([]) (fun σ5 B6 N7 hσ5 hB6 hN7 => ?_) (fun j4 hj4 => ?_)
      · refine s_aload_n hC dX4_put_81 rfl 0 rfl ?_
        refine s_get hC hK (fun H h => ((hV.1 σ5 B6 N7) H h).x) (by decide) o_X rfl q_w_X4 0 (by decide) q_f_X4_12 rfl dX4_put_82 ?_
        refine s_get hC hK (fun H h => ((hV.1 σ5 B6 N7) H h).x) (by decide) o_PadX rfl q_w_X2 1 (by decide) q_f_X4_66 rfl dX4_put_85 ?_
        refine s_widen (k' := 0) (n' := 0) (Nat.le_of_ble_eq_true rfl) (Nat.le_of_ble_eq_true rfl) ?_
        exact s_iret hC hr dX4_put_88 (fun H hH => ⟨rfl, (hσ5 1 1), hσ5, hB6, hN7, hH⟩)
      · refine u_lp_IT (V := V) (F := g_X4_put_L34 a1 j4) 34 (fun x8 => [(0, .ref (x + 0)), (1, .long a1), (4, vI x8)]) (fun _ _ _ _ => rfl) (fun n ih34 x8 σ9 B10 N11 hx8 hσ9 hB10 hN11 => ?_) fu v3 σ B nb hv3 hσ hB hn
        rw [g_X4_put_L34]
        refine s_iload hC dX4_put_34 2 rfl ?_
        refine s_if_lt (tgt := 81) hC dX4_put_36 (by decide) hx8 ?_ ?_
        · refine s_sub (L' := [(0, .ref (x + 0))]) [0] rfl ?_
          exact hj4 σ9 B10 N11 hσ9 hB10 hN11
        · refine s_aload_n hC dX4_put_39 rfl 0 rfl ?_
          refine s_get hC hK (fun H h => ((hV.1 σ9 B10 N11) H h).x) (by decide) o_X rfl q_w_X4 0 (by decide) q_f_X4_12 rfl dX4_put_40 ?_
          refine s_get hC hK (fun H h => ((hV.1 σ9 B10 N11) H h).x) (by decide) o_PadX rfl q_w_X2 0 (by decide) q_f_X4_98 rfl dX4_put_43 ?_
          refine s_aload_n hC dX4_put_46 rfl 0 rfl ?_
          refine s_get hC hK (fun H h => ((hV.1 σ9 B10 N11) H h).x) (by decide) o_X rfl q_w_X4 0 (by decide) q_f_X4_12 rfl dX4_put_47 ?_
          refine s_get hC hK (fun H h => ((hV.1 σ9 B10 N11) H h).x) (by decide) o_PadX rfl q_w_X2 1 (by decide) q_f_X4_66 rfl dX4_put_50 ?_
          refine s_lload_n hC dX4_put_53 rfl 1 rfl ?_
          refine s_iload hC dX4_put_54 2 rfl ?_
          refine s_callS_P (As := [.long a1, vI x8]) (rest := [vI (σ9 1 1), .ref (x + 2)]) hC hKA 2 (m_X4_signOf (I := V σ9 B10 N11) hx8) rfl (cb_of hC 2 q_c_yX4_signOf q_i_X4 q_m_X4_196 rfl rfl dd_yX4_signOf ⟨Nat.le_of_ble_eq_true rfl, Nat.le_of_ble_eq_true rfl⟩) q_s_yX4_signOf rfl (Nat.le_of_ble_eq_true rfl) dX4_put_56 ⟨Nat.zero_le _, Nat.zero_le _⟩ (fun r12 hr12 => ?_)
          refine s_callS_U (J := fun σ => V σ B10 N11) (As := [.ref (x + 2), vI (σ9 1 1), vI r12]) (rest := []) hC hKA 3 (m_X4_store hV.wx hσ9 (by decide) a_X_2 (hσ9 1 1) hr12) (fun _ h => Rx_x h) rfl (cb_of hC 3 q_c_yX4_store q_i_X4 q_m_X4_101 rfl rfl dd_yX4_store ⟨Nat.le_of_ble_eq_true rfl, Nat.le_of_ble_eq_true rfl⟩) q_s_yX4_store rfl (Nat.le_of_ble_eq_true rfl) dX4_put_59 ⟨Nat.le_of_ble_eq_true rfl, Nat.le_of_ble_eq_true rfl⟩ (fun σ13 hσ13 => ?_)
          refine s_aload_n hC dX4_put_62 rfl 0 rfl ?_
          refine s_get hC hK (fun H h => ((hV.1 σ13 B10 N11) H h).x) (by decide) o_X rfl q_w_X4 0 (by decide) q_f_X4_12 rfl dX4_put_63 ?_
          refine s_dup hC dX4_put_66 rfl ?_
          refine s_get hC hK (fun H h => ((hV.1 σ13 B10 N11) H h).x) (by decide) o_PadX rfl q_w_X2 1 (by decide) q_f_X4_66 rfl dX4_put_67 ?_
          refine s_iconst hC dX4_put_70 ?_
          refine s_iadd hC dX4_put_71 ?_
          refine s_ck0 (fun v14 hv14 => ?_)
          refine s_putP (J := fun σ => V σ B10 N11) (ty := .int) hC hK hV.wx (fun _ h => Rx_x h) hσ13 hv14 (by decide) o_PadX rfl q_w_X2 tyX2_ok nmX2 1 (by decide) q_f_X4_66 rfl (by decide +kernel) rfl rfl (fun _ => Nat.le_of_ble_eq_true rfl) u_PadX_1 dX4_put_72 (fun σ15 hσ15 => ?_)
          refine s_iincK hC dX4_put_75 2 rfl (by decide) (fun v16 => [(4, vI v16), (0, .ref (x + 0)), (1, .long a1)]) (fun _ => rfl) (fun v16 hv16 => ?_)
          refine s_goto (tgt := 34) hC dX4_put_78 (by decide) ?_
          refine s_sub (L' := [(0, .ref (x + 0)), (1, .long a1), (4, vI v16)]) [1, 2, 0] rfl ?_
          exact ih34 v16 σ15 B10 N11 hv16 hσ15 hB10 hN11
    · refine s_sub (L' := []) [] rfl ?_
      refine s_bipush hC dX4_put_26 (by decide) ?_
      refine s_widen (k' := 0) (n' := 0) (Nat.le_of_ble_eq_true rfl) (Nat.le_of_ble_eq_true rfl) ?_
      exact s_iret hC hr dX4_put_28 (fun H hH => ⟨rfl, (inR_c _ rfl), hσ, hB, hn, hH⟩)
  · refine s_sub (L' := []) [] rfl ?_
    refine s_bipush hC dX4_put_9 (by decide) ?_
    refine s_widen (k' := 0) (n' := 0) (Nat.le_of_ble_eq_true rfl) (Nat.le_of_ble_eq_true rfl) ?_
    exact s_iret hC hr dX4_put_11 (fun H hH => ⟨rfl, (inR_c _ rfl), hσ, hB, hn, hH⟩)
set_option maxHeartbeats 4000000 in
set_option maxRecDepth 100000 in
theorem m_X4_wipe {l : Launch} {G : Gt} {x y0 nb : Nat} {σ : Blk} {B : Nat → Blk}  {V : Blk → (Nat → Blk) → Nat → Heap → Prop} (h5 : x + 205 ≤ y0) (hV : WV G x y0 V) (hσ : Rg σ) (hB : RgB B) (hn : 2 ≤ nb)  : MetS l yX4_wipe cX4_wipe 2 (some .int) { frames := 0, cells := 0, slots := 0, locals := 0 } G [.ref (x + 0)] (V σ B nb) (poT V) (Rx x y0) 0 0 (g_X4_wipe σ B nb) := by
  refine met_of (by decide) (Nat.le_of_ble_eq_true rfl) ?_
  intro p e s m below meth c hC hKA hr _
  have hK := hKA.1
  unfold g_X4_wipe
  refine s_sub (L' := [(0, .ref (x + 0))]) [0] rfl ?_
  refine s_aload_n hC dX4_wipe_0 rfl 0 rfl ?_
  refine s_get hC hK (fun H h => ((hV.1 σ B nb) H h).x) (by decide) o_X rfl q_w_X4 0 (by decide) q_f_X4_12 rfl dX4_wipe_1 ?_
  refine s_get hC hK (fun H h => ((hV.1 σ B nb) H h).x) (by decide) o_PadX rfl q_w_X2 1 (by decide) q_f_X4_66 rfl dX4_wipe_4 ?_
  refine s_nm ((hσ 1 1)) (fun v1 hv1 => ?_)
  refine s_istore_n (L' := [(1, vI v1), (0, .ref (x + 0))]) hC dX4_wipe_7 rfl (by decide) rfl ?_
  refine s_aload_n hC dX4_wipe_8 rfl 1 rfl ?_
  refine s_get hC hK (fun H h => ((hV.1 σ B nb) H h).x) (by decide) o_X rfl q_w_X4 0 (by decide) q_f_X4_12 rfl dX4_wipe_9 ?_
  refine s_iconst hC dX4_wipe_12 ?_
  refine s_putP (J := fun σ => V σ B nb) (ty := .int) hC hK hV.wx (fun _ h => Rx_x h) hσ (inR_c _ rfl) (by decide) o_PadX rfl q_w_X2 tyX2_ok nmX2 1 (by decide) q_f_X4_66 rfl (by decide +kernel) rfl rfl (fun _ => Nat.le_of_ble_eq_true rfl) u_PadX_1 dX4_wipe_13 (fun σ2 hσ2 => ?_)
  refine s_iload_n hC dX4_wipe_16 rfl 0 rfl ?_
  refine s_widen (k' := 0) (n' := 0) (Nat.le_of_ble_eq_true rfl) (Nat.le_of_ble_eq_true rfl) ?_
  exact s_iret hC hr dX4_wipe_17 (fun H hH => ⟨rfl, hv1, hσ2, hB, hn, hH⟩)
