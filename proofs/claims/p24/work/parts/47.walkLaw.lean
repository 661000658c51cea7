set_option maxHeartbeats 8000000 in
set_option maxRecDepth 100000 in
theorem m_L_same {l : Launch} {G : Gt} {x nb : Nat} {σ τ : Blk} {B : Nat → Blk} {I : Heap → Prop} (hI : ∀ H, I H → VL G x σ B nb τ H) (hσ : Rg σ) (hB : RgB B) (hn : 2 ≤ nb) (hτ : Rg τ) : MetS l yL_same cL_same 19 (some .boolean) { frames := 5, cells := 0, slots := 0, locals := 112 } G [.ref (x + 0), .ref (x + 205 + 0), .ref (x + 205 + 1), .ref (x + 205 + 2), .ref (x + 205 + 6)] I (poP I) (fun _ => False) 0 0 (g_L_same σ B nb τ) := by
  refine met_of (by decide) (Nat.le_of_ble_eq_true rfl) ?_
  intro p e s m below meth c hC hKA hr _
  have hK := hKA.1
  unfold g_L_same
  refine s_sub (L' := [(0, .ref (x + 0)), (1, .ref (x + 205 + 0)), (2, .ref (x + 205 + 1)), (3, .ref (x + 205 + 2)), (4, .ref (x + 205 + 6))]) [0, 1, 2, 3, 4] rfl ?_
  refine s_iconst hC dL_same_0 ?_
  refine s_istore (L' := [(5, vI 0), (0, .ref (x + 0)), (1, .ref (x + 205 + 0)), (2, .ref (x + 205 + 1)), (3, .ref (x + 205 + 2)), (4, .ref (x + 205 + 6))]) hC dL_same_1 (by decide) rfl ?_
  refine s_iconst hC dL_same_3 ?_
  refine s_istore (L' := [(6, vI 0), (5, vI 0), (0, .ref (x + 0)), (1, .ref (x + 205 + 0)), (2, .ref (x + 205 + 1)), (3, .ref (x + 205 + 2)), (4, .ref (x + 205 + 6))]) hC dL_same_4 (by decide) rfl ?_
  refine s_iconst hC dL_same_6 ?_
  refine s_istore (L' := [(7, vI 0), (6, vI 0), (5, vI 0), (0, .ref (x + 0)), (1, .ref (x + 205 + 0)), (2, .ref (x + 205 + 1)), (3, .ref (x + 205 + 2)), (4, .ref (x + 205 + 6))]) hC dL_same_7 (by decide) rfl ?_
  refine s_bipush hC dL_same_9 (by decide) ?_
  refine s_istore (L' := [(8, vI ((-6))), (7, vI 0), (6, vI 0), (5, vI 0), (0, .ref (x + 0)), (1, .ref (x + 205 + 0)), (2, .ref (x + 205 + 1)), (3, .ref (x + 205 + 2)), (4, .ref (x + 205 + 6))]) hC dL_same_11 (by decide) rfl ?_
  refine s_iconst hC dL_same_13 ?_
  refine s_istore (L' := [(9, vI 0), (8, vI ((-6))), (7, vI 0), (6, vI 0), (5, vI 0), (0, .ref (x + 0)), (1, .ref (x + 205 + 0)), (2, .ref (x + 205 + 1)), (3, .ref (x + 205 + 2)), (4, .ref (x + 205 + 6))]) hC dL_same_14 (by decide) rfl ?_
  refine s_iconst hC dL_same_16 ?_
  refine s_istore (L' := [(10, vI 0), (9, vI 0), (8, vI ((-6))), (7, vI 0), (6, vI 0), (5, vI 0), (0, .ref (x + 0)), (1, .ref (x + 205 + 0)), (2, .ref (x + 205 + 1)), (3, .ref (x + 205 + 2)), (4, .ref (x + 205 + 6))]) hC dL_same_17 (by decide) rfl ?_
  refine s_sub (L' := [(0, .ref (x + 0)), (1, .ref (x + 205 + 0)), (2, .ref (x + 205 + 1)), (3, .ref (x + 205 + 2)), (4, .ref (x + 205 + 6)), (5, vI 0), (6, vI 0), (7, vI 0), (8, vI ((-6))), (9, vI 0), (10, vI 0)]) [6, 7, 8, 9, 10, 5, 4, 3, 2, 1, 0] rfl ?_
  refine d_jp_II (0) (0) 365 (fun x2 x3 => [(0, .ref (x + 0)), (1, .ref (x + 205 + 0)), (2, .ref (x + 205 + 1)), (3, .ref (x + 205 + 2)), (4, .ref (x + 205 + 6)), (5, vI x2), (6, vI x3), (7, vI 0), (8, vI ((-6))), (9, vI 0)]) (fun x2 x3 => []) (fun x2 x3 hx2 hx3 => ?_) (fun j1 hj1 => ?_)
  · refine s_iconst hC dL_same_365 ?_
    refine s_istore (L' := [(10, vI 0), (0, .ref (x + 0)), (1, .ref (x + 205 + 0)), (2, .ref (x + 205 + 1)), (3, .ref (x + 205 + 2)), (4, .ref (x + 205 + 6)), (5, vI x2), (6, vI x3), (7, vI 0), (8, vI ((-6))), (9, vI 0)]) hC dL_same_366 (by decide) rfl ?_
    refine s_sub (L' := [(0, .ref (x + 0)), (1, .ref (x + 205 + 0)), (2, .ref (x + 205 + 1)), (3, .ref (x + 205 + 2)), (4, .ref (x + 205 + 6)), (5, vI x2), (6, vI x3), (7, vI 0), (8, vI ((-6))), (9, vI 0), (10, vI 0)]) [1, 2, 3, 4, 5, 6, 7, 8, 9, 10, 0] rfl ?_
    refine d_jp_III (0) (0) 873 (fun x5 x6 x7 => [(0, .ref (x + 0)), (1, .ref (x + 205 + 0)), (2, .ref (x + 205 + 1)), (3, .ref (x + 205 + 2)), (5, vI x2), (6, vI x3), (7, vI x5), (8, vI x6), (9, vI x7)]) (fun x5 x6 x7 => []) (fun x5 x6 x7 hx5 hx6 hx7 => ?_) (fun j4 hj4 => ?_)
    · refine s_aload_n hC dL_same_873 rfl 0 rfl ?_
      refine s_iload hC dL_same_874 8 rfl ?_
      refine s_callV_P (As := [vI x7]) (rest := []) (a := x + 0) hC hKA 1 (m_X4_key (x := x) (y0 := x + 212) (by omega) (fun H h => (hI H h).1) hσ hB hx7) rfl (cb_of hC 1 q_c_yX4_key q_i_X4 q_m_L_66 rfl rfl dd_yX4_key ⟨Nat.le_of_ble_eq_true rfl, Nat.le_of_ble_eq_true rfl⟩) q_i_yX4_key q_x_yX4_key (s_recv hK (fun H h => (hI H h).1.x) (by decide) o_X rfl) rfl (Nat.le_of_ble_eq_true rfl) dL_same_876 ⟨Nat.le_of_ble_eq_true rfl, Nat.le_of_ble_eq_true rfl⟩ (fun r8 hr8 => ?_)
      refine s_iconst hC dL_same_879 ?_
      refine s_icmp_ne (tgt := 1012) hC dL_same_880 (by decide) hr8 (inR_c _ rfl) ?_ ?_
      · refine s_sub (L' := []) [] rfl ?_
        refine s_iconst hC dL_same_1012 ?_
        exact s_zret hC hr (Or.inl rfl) dL_same_1013 (fun H hH => ⟨rfl, (inR_c _ rfl), hH⟩)
      · refine s_sub (L' := [(0, .ref (x + 0)), (1, .ref (x + 205 + 0)), (2, .ref (x + 205 + 1)), (3, .ref (x + 205 + 2)), (5, vI x2), (6, vI x3), (7, vI x5), (8, vI x6)]) [0, 1, 2, 3, 4, 5, 6, 7] rfl ?_
        refine s_aload_n hC dL_same_883 rfl 0 rfl ?_
        refine s_iconst hC dL_same_884 ?_
        refine s_callV_P (As := [vI 0]) (rest := []) (a := x + 0) hC hKA 1 (m_X4_count (x := x) (y0 := x + 212) (by omega) (fun H h => (hI H h).1) hσ hB (inR_c _ rfl)) rfl (cb_of hC 1 q_c_yX4_count q_i_X4 q_m_L_78 rfl rfl dd_yX4_count ⟨Nat.le_of_ble_eq_true rfl, Nat.le_of_ble_eq_true rfl⟩) q_i_yX4_count q_x_yX4_count (s_recv hK (fun H h => (hI H h).1.x) (by decide) o_X rfl) rfl (Nat.le_of_ble_eq_true rfl) dL_same_885 ⟨Nat.le_of_ble_eq_true rfl, Nat.le_of_ble_eq_true rfl⟩ (fun r9 hr9 => ?_)
        refine s_aload_n hC dL_same_888 rfl 1 rfl ?_
        refine s_iconst hC dL_same_889 ?_
        refine s_iaload (b := x + 205) hC hK (fun H h => (hI H h).2) hτ (by decide) a_Tab_0 dL_same_890 (fun v10 hv10 => ?_)
        refine s_icmp_ne (tgt := 1012) hC dL_same_891 (by decide) hr9 hv10 ?_ ?_
        · refine s_sub (L' := []) [] rfl ?_
          refine s_iconst hC dL_same_1012 ?_
          exact s_zret hC hr (Or.inl rfl) dL_same_1013 (fun H hH => ⟨rfl, (inR_c _ rfl), hH⟩)
        · refine s_aload_n hC dL_same_894 rfl 0 rfl ?_
          refine s_iconst hC dL_same_895 ?_
          refine s_callV_P (As := [vI 1]) (rest := []) (a := x + 0) hC hKA 1 (m_X4_count (x := x) (y0 := x + 212) (by omega) (fun H h => (hI H h).1) hσ hB (inR_c _ rfl)) rfl (cb_of hC 1 q_c_yX4_count q_i_X4 q_m_L_78 rfl rfl dd_yX4_count ⟨Nat.le_of_ble_eq_true rfl, Nat.le_of_ble_eq_true rfl⟩) q_i_yX4_count q_x_yX4_count (s_recv hK (fun H h => (hI H h).1.x) (by decide) o_X rfl) rfl (Nat.le_of_ble_eq_true rfl) dL_same_896 ⟨Nat.le_of_ble_eq_true rfl, Nat.le_of_ble_eq_true rfl⟩ (fun r11 hr11 => ?_)
          refine s_iload hC dL_same_899 4 rfl ?_
          refine s_icmp_ne (tgt := 1012) hC dL_same_901 (by decide) hr11 hx2 ?_ ?_
          · refine s_sub (L' := []) [] rfl ?_
            refine s_iconst hC dL_same_1012 ?_
            exact s_zret hC hr (Or.inl rfl) dL_same_1013 (fun H hH => ⟨rfl, (inR_c _ rfl), hH⟩)
          · refine s_sub (L' := [(0, .ref (x + 0)), (1, .ref (x + 205 + 0)), (2, .ref (x + 205 + 1)), (3, .ref (x + 205 + 2)), (6, vI x3), (7, vI x5), (8, vI x6)]) [0, 1, 2, 3, 5, 6, 7] rfl ?_
            refine s_aload_n hC dL_same_904 rfl 0 rfl ?_
            refine s_iconst hC dL_same_905 ?_
            refine s_callV_P (As := [vI 2]) (rest := []) (a := x + 0) hC hKA 1 (m_X4_count (x := x) (y0 := x + 212) (by omega) (fun H h => (hI H h).1) hσ hB (inR_c _ rfl)) rfl (cb_of hC 1 q_c_yX4_count q_i_X4 q_m_L_78 rfl rfl dd_yX4_count ⟨Nat.le_of_ble_eq_true rfl, Nat.le_of_ble_eq_true rfl⟩) q_i_yX4_count q_x_yX4_count (s_recv hK (fun H h => (hI H h).1.x) (by decide) o_X rfl) rfl (Nat.le_of_ble_eq_true rfl) dL_same_906 ⟨Nat.le_of_ble_eq_true rfl, Nat.le_of_ble_eq_true rfl⟩ (fun r12 hr12 => ?_)
            refine s_iconst hC dL_same_909 ?_
            refine s_aload_n hC dL_same_910 rfl 3 rfl ?_
            refine s_aload_n hC dL_same_911 rfl 1 rfl ?_
            refine s_iconst hC dL_same_912 ?_
            refine s_iaload (b := x + 205) hC hK (fun H h => (hI H h).2) hτ (by decide) a_Tab_0 dL_same_913 (fun v13 hv13 => ?_)
            refine s_callS_P (As := [vI 3, .ref (x + 205 + 2), vI v13]) (rest := [vI r12]) hC hKA 3 (m_L_kinds (b := x + 205) (fun H h => (hI H h).2) hτ (inR_c _ rfl) (by decide) a_Tab_2 hv13) rfl (cb_of hC 3 q_c_yL_kinds q_i_L q_m_L_81 rfl rfl dd_yL_kinds ⟨Nat.le_of_ble_eq_true rfl, Nat.le_of_ble_eq_true rfl⟩) q_s_yL_kinds rfl (Nat.le_of_ble_eq_true rfl) dL_same_914 ⟨Nat.le_of_ble_eq_true rfl, Nat.le_of_ble_eq_true rfl⟩ (fun r14 hr14 => ?_)
            refine s_icmp_ne (tgt := 1012) hC dL_same_917 (by decide) hr12 hr14 ?_ ?_
            · refine s_sub (L' := []) [] rfl ?_
              refine s_iconst hC dL_same_1012 ?_
              exact s_zret hC hr (Or.inl rfl) dL_same_1013 (fun H hH => ⟨rfl, (inR_c _ rfl), hH⟩)
            · refine s_aload_n hC dL_same_920 rfl 0 rfl ?_
              refine s_iconst hC dL_same_921 ?_
              refine s_callV_P (As := [vI 3]) (rest := []) (a := x + 0) hC hKA 1 (m_X4_count (x := x) (y0 := x + 212) (by omega) (fun H h => (hI H h).1) hσ hB (inR_c _ rfl)) rfl (cb_of hC 1 q_c_yX4_count q_i_X4 q_m_L_78 rfl rfl dd_yX4_count ⟨Nat.le_of_ble_eq_true rfl, Nat.le_of_ble_eq_true rfl⟩) q_i_yX4_count q_x_yX4_count (s_recv hK (fun H h => (hI H h).1.x) (by decide) o_X rfl) rfl (Nat.le_of_ble_eq_true rfl) dL_same_922 ⟨Nat.le_of_ble_eq_true rfl, Nat.le_of_ble_eq_true rfl⟩ (fun r15 hr15 => ?_)
              refine s_iconst hC dL_same_925 ?_
              refine s_aload_n hC dL_same_926 rfl 3 rfl ?_
              refine s_aload_n hC dL_same_927 rfl 1 rfl ?_
              refine s_iconst hC dL_same_928 ?_
              refine s_iaload (b := x + 205) hC hK (fun H h => (hI H h).2) hτ (by decide) a_Tab_0 dL_same_929 (fun v16 hv16 => ?_)
              refine s_callS_P (As := [vI 2, .ref (x + 205 + 2), vI v16]) (rest := [vI r15]) hC hKA 3 (m_L_kinds (b := x + 205) (fun H h => (hI H h).2) hτ (inR_c _ rfl) (by decide) a_Tab_2 hv16) rfl (cb_of hC 3 q_c_yL_kinds q_i_L q_m_L_81 rfl rfl dd_yL_kinds ⟨Nat.le_of_ble_eq_true rfl, Nat.le_of_ble_eq_true rfl⟩) q_s_yL_kinds rfl (Nat.le_of_ble_eq_true rfl) dL_same_930 ⟨Nat.le_of_ble_eq_true rfl, Nat.le_of_ble_eq_true rfl⟩ (fun r17 hr17 => ?_)
              refine s_icmp_ne (tgt := 1012) hC dL_same_933 (by decide) hr15 hr17 ?_ ?_
              · refine s_sub (L' := []) [] rfl ?_
                refine s_iconst hC dL_same_1012 ?_
                exact s_zret hC hr (Or.inl rfl) dL_same_1013 (fun H hH => ⟨rfl, (inR_c _ rfl), hH⟩)
              · refine s_aload_n hC dL_same_936 rfl 0 rfl ?_
                refine s_iconst hC dL_same_937 ?_
                refine s_callV_P (As := [vI 4]) (rest := []) (a := x + 0) hC hKA 1 (m_X4_count (x := x) (y0 := x + 212) (by omega) (fun H h => (hI H h).1) hσ hB (inR_c _ rfl)) rfl (cb_of hC 1 q_c_yX4_count q_i_X4 q_m_L_78 rfl rfl dd_yX4_count ⟨Nat.le_of_ble_eq_true rfl, Nat.le_of_ble_eq_true rfl⟩) q_i_yX4_count q_x_yX4_count (s_recv hK (fun H h => (hI H h).1.x) (by decide) o_X rfl) rfl (Nat.le_of_ble_eq_true rfl) dL_same_938 ⟨Nat.le_of_ble_eq_true rfl, Nat.le_of_ble_eq_true rfl⟩ (fun r18 hr18 => ?_)
                refine s_iload hC dL_same_941 4 rfl ?_
                refine s_icmp_ne (tgt := 1012) hC dL_same_943 (by decide) hr18 hx3 ?_ ?_
                · refine s_sub (L' := []) [] rfl ?_
                  refine s_iconst hC dL_same_1012 ?_
                  exact s_zret hC hr (Or.inl rfl) dL_same_1013 (fun H hH => ⟨rfl, (inR_c _ rfl), hH⟩)
                · refine s_sub (L' := [(0, .ref (x + 0)), (1, .ref (x + 205 + 0)), (2, .ref (x + 205 + 1)), (3, .ref (x + 205 + 2)), (7, vI x5), (8, vI x6)]) [0, 1, 2, 3, 5, 6] rfl ?_
                  refine s_aload_n hC dL_same_946 rfl 0 rfl ?_
                  refine s_iconst hC dL_same_947 ?_
                  refine s_callV_P (As := [vI 5]) (rest := []) (a := x + 0) hC hKA 1 (m_X4_count (x := x) (y0 := x + 212) (by omega) (fun H h => (hI H h).1) hσ hB (inR_c _ rfl)) rfl (cb_of hC 1 q_c_yX4_count q_i_X4 q_m_L_78 rfl rfl dd_yX4_count ⟨Nat.le_of_ble_eq_true rfl, Nat.le_of_ble_eq_true rfl⟩) q_i_yX4_count q_x_yX4_count (s_recv hK (fun H h => (hI H h).1.x) (by decide) o_X rfl) rfl (Nat.le_of_ble_eq_true rfl) dL_same_948 ⟨Nat.le_of_ble_eq_true rfl, Nat.le_of_ble_eq_true rfl⟩ (fun r19 hr19 => ?_)
                  refine s_aload_n hC dL_same_951 rfl 2 rfl ?_
                  refine s_aload_n hC dL_same_952 rfl 3 rfl ?_
                  refine s_aload_n hC dL_same_953 rfl 1 rfl ?_
                  refine s_iconst hC dL_same_954 ?_
                  refine s_iaload (b := x + 205) hC hK (fun H h => (hI H h).2) hτ (by decide) a_Tab_0 dL_same_955 (fun v20 hv20 => ?_)
                  refine s_callS_P (As := [.ref (x + 205 + 1), .ref (x + 205 + 2), vI v20]) (rest := [vI r19]) hC hKA 3 (m_L_costs (b := x + 205) (fun H h => (hI H h).2) hτ (by decide) a_Tab_1 (by decide) a_Tab_2 hv20) rfl (cb_of hC 3 q_c_yL_costs q_i_L q_m_L_84 rfl rfl dd_yL_costs ⟨Nat.le_of_ble_eq_true rfl, Nat.le_of_ble_eq_true rfl⟩) q_s_yL_costs rfl (Nat.le_of_ble_eq_true rfl) dL_same_956 ⟨Nat.le_of_ble_eq_true rfl, Nat.le_of_ble_eq_true rfl⟩ (fun r21 hr21 => ?_)
                  refine s_icmp_ne (tgt := 1012) hC dL_same_959 (by decide) hr19 hr21 ?_ ?_
                  · refine s_sub (L' := []) [] rfl ?_
                    refine s_iconst hC dL_same_1012 ?_
                    exact s_zret hC hr (Or.inl rfl) dL_same_1013 (fun H hH => ⟨rfl, (inR_c _ rfl), hH⟩)
                  · refine s_sub (L' := [(0, .ref (x + 0)), (1, .ref (x + 205 + 0)), (7, vI x5), (8, vI x6)]) [0, 1, 4, 5] rfl ?_
                    refine s_aload_n hC dL_same_962 rfl 0 rfl ?_
                    refine s_bipush hC dL_same_963 (by decide) ?_
                    refine s_callV_P (As := [vI 6]) (rest := []) (a := x + 0) hC hKA 1 (m_X4_count (x := x) (y0 := x + 212) (by omega) (fun H h => (hI H h).1) hσ hB (inR_c _ rfl)) rfl (cb_of hC 1 q_c_yX4_count q_i_X4 q_m_L_78 rfl rfl dd_yX4_count ⟨Nat.le_of_ble_eq_true rfl, Nat.le_of_ble_eq_true rfl⟩) q_i_yX4_count q_x_yX4_count (s_recv hK (fun H h => (hI H h).1.x) (by decide) o_X rfl) rfl (Nat.le_of_ble_eq_true rfl) dL_same_965 ⟨Nat.le_of_ble_eq_true rfl, Nat.le_of_ble_eq_true rfl⟩ (fun r22 hr22 => ?_)
                    refine s_iload hC dL_same_968 2 rfl ?_
                    refine s_icmp_ne (tgt := 1012) hC dL_same_970 (by decide) hr22 hx5 ?_ ?_
                    · refine s_sub (L' := []) [] rfl ?_
                      refine s_iconst hC dL_same_1012 ?_
                      exact s_zret hC hr (Or.inl rfl) dL_same_1013 (fun H hH => ⟨rfl, (inR_c _ rfl), hH⟩)
                    · refine s_sub (L' := [(0, .ref (x + 0)), (1, .ref (x + 205 + 0)), (8, vI x6)]) [0, 1, 3] rfl ?_
                      refine s_aload_n hC dL_same_973 rfl 0 rfl ?_
                      refine s_bipush hC dL_same_974 (by decide) ?_
                      refine s_callV_P (As := [vI 7]) (rest := []) (a := x + 0) hC hKA 1 (m_X4_count (x := x) (y0 := x + 212) (by omega) (fun H h => (hI H h).1) hσ hB (inR_c _ rfl)) rfl (cb_of hC 1 q_c_yX4_count q_i_X4 q_m_L_78 rfl rfl dd_yX4_count ⟨Nat.le_of_ble_eq_true rfl, Nat.le_of_ble_eq_true rfl⟩) q_i_yX4_count q_x_yX4_count (s_recv hK (fun H h => (hI H h).1.x) (by decide) o_X rfl) rfl (Nat.le_of_ble_eq_true rfl) dL_same_976 ⟨Nat.le_of_ble_eq_true rfl, Nat.le_of_ble_eq_true rfl⟩ (fun r23 hr23 => ?_)
                      refine s_iload hC dL_same_979 2 rfl ?_
                      refine s_icmp_ne (tgt := 1012) hC dL_same_981 (by decide) hr23 hx6 ?_ ?_
                      · refine s_sub (L' := []) [] rfl ?_
                        refine s_iconst hC dL_same_1012 ?_
                        exact s_zret hC hr (Or.inl rfl) dL_same_1013 (fun H hH => ⟨rfl, (inR_c _ rfl), hH⟩)
                      · refine s_sub (L' := [(0, .ref (x + 0)), (1, .ref (x + 205 + 0))]) [0, 1] rfl ?_
                        refine s_aload_n hC dL_same_984 rfl 0 rfl ?_
                        refine s_bipush hC dL_same_985 (by decide) ?_
                        refine s_callV_P (As := [vI 8]) (rest := []) (a := x + 0) hC hKA 1 (m_X4_count (x := x) (y0 := x + 212) (by omega) (fun H h => (hI H h).1) hσ hB (inR_c _ rfl)) rfl (cb_of hC 1 q_c_yX4_count q_i_X4 q_m_L_78 rfl rfl dd_yX4_count ⟨Nat.le_of_ble_eq_true rfl, Nat.le_of_ble_eq_true rfl⟩) q_i_yX4_count q_x_yX4_count (s_recv hK (fun H h => (hI H h).1.x) (by decide) o_X rfl) rfl (Nat.le_of_ble_eq_true rfl) dL_same_987 ⟨Nat.le_of_ble_eq_true rfl, Nat.le_of_ble_eq_true rfl⟩ (fun r24 hr24 => ?_)
                        refine s_aload_n hC dL_same_990 rfl 1 rfl ?_
                        refine s_iconst hC dL_same_991 ?_
                        refine s_iaload (b := x + 205) hC hK (fun H h => (hI H h).2) hτ (by decide) a_Tab_0 dL_same_992 (fun v25 hv25 => ?_)
                        refine s_icmp_ne (tgt := 1012) hC dL_same_993 (by decide) hr24 hv25 ?_ ?_
                        · refine s_sub (L' := []) [] rfl ?_
                          refine s_iconst hC dL_same_1012 ?_
                          exact s_zret hC hr (Or.inl rfl) dL_same_1013 (fun H hH => ⟨rfl, (inR_c _ rfl), hH⟩)
                        · refine s_aload_n hC dL_same_996 rfl 0 rfl ?_
                          refine s_bipush hC dL_same_997 (by decide) ?_
                          refine s_callV_P (As := [vI 9]) (rest := []) (a := x + 0) hC hKA 1 (m_X4_count (x := x) (y0 := x + 212) (by omega) (fun H h => (hI H h).1) hσ hB (inR_c _ rfl)) rfl (cb_of hC 1 q_c_yX4_count q_i_X4 q_m_L_78 rfl rfl dd_yX4_count ⟨Nat.le_of_ble_eq_true rfl, Nat.le_of_ble_eq_true rfl⟩) q_i_yX4_count q_x_yX4_count (s_recv hK (fun H h => (hI H h).1.x) (by decide) o_X rfl) rfl (Nat.le_of_ble_eq_true rfl) dL_same_999 ⟨Nat.le_of_ble_eq_true rfl, Nat.le_of_ble_eq_true rfl⟩ (fun r26 hr26 => ?_)
                          refine s_aload_n hC dL_same_1002 rfl 1 rfl ?_
                          refine s_iconst hC dL_same_1003 ?_
                          refine s_iaload (b := x + 205) hC hK (fun H h => (hI H h).2) hτ (by decide) a_Tab_0 dL_same_1004 (fun v27 hv27 => ?_)
                          refine s_icmp_ne (tgt := 1012) hC dL_same_1005 (by decide) hr26 hv27 ?_ ?_
                          · refine s_sub (L' := []) [] rfl ?_
                            refine s_iconst hC dL_same_1012 ?_
                            exact s_zret hC hr (Or.inl rfl) dL_same_1013 (fun H hH => ⟨rfl, (inR_c _ rfl), hH⟩)
                          · refine s_sub (L' := []) [] rfl ?_
                            refine s_iconst hC dL_same_1008 ?_
                            refine s_goto (tgt := 1013) hC dL_same_1009 (by decide) ?_
                            exact s_zret hC hr (Or.inr rfl) dL_same_1013 (fun H hH => ⟨rfl, (inR_c _ rfl), hH⟩)
    · refine d_lp_IIII (F := g_L_same_L368 σ B nb τ j4) 368 (fun x28 x29 x30 x31 => [(0, .ref (x + 0)), (1, .ref (x + 205 + 0)), (2, .ref (x + 205 + 1)), (3, .ref (x + 205 + 2)), (4, .ref (x + 205 + 6)), (5, vI x2), (6, vI x3), (7, vI x28), (8, vI x29), (9, vI x30), (10, vI x31)]) (fun _ _ _ _ => rfl) (fun n ih368 x28 x29 x30 x31 hx28 hx29 hx30 hx31 => ?_) fu 0 ((-6)) 0 0 (inR_c _ rfl) (inR_c _ rfl) (inR_c _ rfl) (inR_c _ rfl)
      rw [g_L_same_L368]
      refine s_iload hC dL_same_368 10 rfl ?_
      refine s_bipush hC dL_same_370 (by decide) ?_
      refine s_icmp_ge (tgt := 873) hC dL_same_372 (by decide) hx31 (inR_c _ rfl) ?_ ?_
      · refine s_sub (L' := [(0, .ref (x + 0)), (1, .ref (x + 205 + 0)), (2, .ref (x + 205 + 1)), (3, .ref (x + 205 + 2)), (5, vI x2), (6, vI x3), (7, vI x28), (8, vI x29), (9, vI x30)]) [0, 1, 2, 3, 5, 6, 7, 8, 9] rfl ?_
        exact hj4 x28 x29 x30 hx28 hx29 hx30
      · refine s_iload hC dL_same_375 10 rfl ?_
        refine s_aload_n hC dL_same_377 rfl 2 rfl ?_
        refine s_callS_P (As := [vI x31, .ref (x + 205 + 1)]) (rest := []) hC hKA 2 (m_L_rowOf (b := x + 205) (fun H h => (hI H h).2) hτ hx31 (by decide) a_Tab_1) rfl (cb_of hC 2 q_c_yL_rowOf q_i_L q_m_L_38 rfl rfl dd_yL_rowOf ⟨Nat.le_of_ble_eq_true rfl, Nat.le_of_ble_eq_true rfl⟩) q_s_yL_rowOf rfl (Nat.le_of_ble_eq_true rfl) dL_same_378 ⟨Nat.le_of_ble_eq_true rfl, Nat.le_of_ble_eq_true rfl⟩ (fun r32 hr32 => ?_)
        refine s_istore (L' := [(11, vI r32), (0, .ref (x + 0)), (1, .ref (x + 205 + 0)), (2, .ref (x + 205 + 1)), (3, .ref (x + 205 + 2)), (4, .ref (x + 205 + 6)), (5, vI x2), (6, vI x3), (7, vI x28), (8, vI x29), (9, vI x30), (10, vI x31)]) hC dL_same_381 (by decide) rfl ?_
        refine s_iload hC dL_same_383 0 rfl ?_
        refine d_jp_III (0) (0) 867 (fun x34 x35 x36 => [(0, .ref (x + 0)), (1, .ref (x + 205 + 0)), (2, .ref (x + 205 + 1)), (3, .ref (x + 205 + 2)), (4, .ref (x + 205 + 6)), (5, vI x2), (6, vI x3), (7, vI x34), (8, vI x35), (9, vI x36), (10, vI x31)]) (fun x34 x35 x36 => []) (fun x34 x35 x36 hx34 hx35 hx36 => ?_) (fun j33 hj33 => ?_)
        · refine s_iincK hC dL_same_867 10 rfl (by decide) (fun v37 => [(10, vI v37), (0, .ref (x + 0)), (1, .ref (x + 205 + 0)), (2, .ref (x + 205 + 1)), (3, .ref (x + 205 + 2)), (4, .ref (x + 205 + 6)), (5, vI x2), (6, vI x3), (7, vI x34), (8, vI x35), (9, vI x36)]) (fun _ => rfl) (fun v37 hv37 => ?_)
          refine s_goto (tgt := 368) hC dL_same_870 (by decide) ?_
          refine s_sub (L' := [(0, .ref (x + 0)), (1, .ref (x + 205 + 0)), (2, .ref (x + 205 + 1)), (3, .ref (x + 205 + 2)), (4, .ref (x + 205 + 6)), (5, vI x2), (6, vI x3), (7, vI x34), (8, vI x35), (9, vI x36), (10, vI v37)]) [1, 2, 3, 4, 5, 6, 7, 8, 9, 10, 0] rfl ?_
          exact ih368 x34 x35 x36 v37 hx34 hx35 hx36 hv37
        · refine s_if_ge (tgt := 401) hC dL_same_385 (by decide) hr32 ?_ ?_
          · refine s_sub (L' := [(0, .ref (x + 0)), (1, .ref (x + 205 + 0)), (2, .ref (x + 205 + 1)), (3, .ref (x + 205 + 2)), (4, .ref (x + 205 + 6)), (5, vI x2), (6, vI x3), (7, vI x28), (8, vI x29), (9, vI x30), (10, vI x31), (11, vI r32)]) [1, 2, 3, 4, 5, 6, 7, 8, 9, 10, 11, 0] rfl ?_
            refine s_iconst hC dL_same_401 ?_
            refine s_iload hC dL_same_402 11 rfl ?_
            refine s_imul hC dL_same_404 ?_
            refine s_ck0 (fun v38 hv38 => ?_)
            refine s_istore (L' := [(12, vI v38), (0, .ref (x + 0)), (1, .ref (x + 205 + 0)), (2, .ref (x + 205 + 1)), (3, .ref (x + 205 + 2)), (4, .ref (x + 205 + 6)), (5, vI x2), (6, vI x3), (7, vI x28), (8, vI x29), (9, vI x30), (10, vI x31), (11, vI r32)]) hC dL_same_405 (by decide) rfl ?_
            refine s_iload hC dL_same_407 12 rfl ?_
            refine s_aload_n hC dL_same_409 rfl 4 rfl ?_
            refine s_aload_n hC dL_same_410 rfl 2 rfl ?_
            refine s_iconst hC dL_same_411 ?_
            refine s_iaload (b := x + 205) hC hK (fun H h => (hI H h).2) hτ (by decide) a_Tab_0 dL_same_412 (fun v39 hv39 => ?_)
            refine s_callS_P (As := [vI r32, .ref (x + 205 + 2), vI v39]) (rest := []) hC hKA 3 (m_L_pieces (b := x + 205) (fun H h => (hI H h).2) hτ hr32 (by decide) a_Tab_2 hv39) rfl (cb_of hC 3 q_c_yL_pieces q_i_L q_m_L_46 rfl rfl dd_yL_pieces ⟨Nat.le_of_ble_eq_true rfl, Nat.le_of_ble_eq_true rfl⟩) q_s_yL_pieces rfl (Nat.le_of_ble_eq_true rfl) dL_same_413 ⟨Nat.le_of_ble_eq_true rfl, Nat.le_of_ble_eq_true rfl⟩ (fun r40 hr40 => ?_)
            refine s_istore (L' := [(13, vI r40), (12, vI v38), (0, .ref (x + 0)), (1, .ref (x + 205 + 0)), (2, .ref (x + 205 + 1)), (3, .ref (x + 205 + 2)), (4, .ref (x + 205 + 6)), (5, vI x2), (6, vI x3), (7, vI x28), (8, vI x29), (9, vI x30), (10, vI x31), (11, vI r32)]) hC dL_same_416 (by decide) rfl ?_
            refine s_aload_n hC dL_same_418 rfl 5 rfl ?_
            refine s_iconst hC dL_same_419 ?_
            refine s_iload hC dL_same_420 13 rfl ?_
            refine s_iconst hC dL_same_422 ?_
            refine s_aload_n hC dL_same_423 rfl 5 rfl ?_
            refine s_aload_n hC dL_same_424 rfl 3 rfl ?_
            refine s_iconst hC dL_same_425 ?_
            refine s_iaload (b := x + 205) hC hK (fun H h => (hI H h).2) hτ (by decide) a_Tab_0 dL_same_426 (fun v41 hv41 => ?_)
            refine s_callS_P (As := [vI 1, vI r32, vI 0, .ref (x + 205 + 2), vI v41]) (rest := [.ref (x + 205 + 2)]) hC hKA 5 (m_L_find (b := x + 205) (fun H h => (hI H h).2) hτ (inR_c _ rfl) hr32 (inR_c _ rfl) (by decide) a_Tab_2 hv41) rfl (cb_of hC 5 q_c_yL_find q_i_L q_m_L_26 rfl rfl dd_yL_find ⟨Nat.le_of_ble_eq_true rfl, Nat.le_of_ble_eq_true rfl⟩) q_s_yL_find rfl (Nat.le_of_ble_eq_true rfl) dL_same_427 ⟨Nat.le_of_ble_eq_true rfl, Nat.le_of_ble_eq_true rfl⟩ (fun r42 hr42 => ?_)
            refine s_iaload (b := x + 205) hC hK (fun H h => (hI H h).2) hτ (by decide) a_Tab_2 dL_same_430 (fun v43 hv43 => ?_)
            refine s_istore (L' := [(14, vI v43), (13, vI r40), (12, vI v38), (0, .ref (x + 0)), (1, .ref (x + 205 + 0)), (2, .ref (x + 205 + 1)), (3, .ref (x + 205 + 2)), (4, .ref (x + 205 + 6)), (5, vI x2), (6, vI x3), (7, vI x28), (8, vI x29), (9, vI x30), (10, vI x31), (11, vI r32)]) hC dL_same_431 (by decide) rfl ?_
            refine s_iload hC dL_same_433 0 rfl ?_
            refine s_callS_P (As := [vI v43]) (rest := []) hC hKA 1 (m_L_cells (I := I) hv43) rfl (cb_of hC 1 q_c_yL_cells q_i_L q_m_L_10 rfl rfl dd_yL_cells ⟨Nat.le_of_ble_eq_true rfl, Nat.le_of_ble_eq_true rfl⟩) q_s_yL_cells rfl (Nat.le_of_ble_eq_true rfl) dL_same_435 ⟨Nat.le_of_ble_eq_true rfl, Nat.le_of_ble_eq_true rfl⟩ (fun r44 hr44 => ?_)
            refine s_aload_n hC dL_same_438 rfl 5 rfl ?_
            refine s_iload hC dL_same_439 2 rfl ?_
            refine s_iconst hC dL_same_441 ?_
            refine s_iadd hC dL_same_442 ?_
            refine s_iaload (b := x + 205) hC hK (fun H h => (hI H h).2) hτ (by decide) a_Tab_1 dL_same_443 (fun v45 hv45 => ?_)
            refine s_aload_n hC dL_same_444 rfl 5 rfl ?_
            refine s_iload hC dL_same_445 2 rfl ?_
            refine s_iconst hC dL_same_447 ?_
            refine s_iadd hC dL_same_448 ?_
            refine s_iaload (b := x + 205) hC hK (fun H h => (hI H h).2) hτ (by decide) a_Tab_1 dL_same_449 (fun v46 hv46 => ?_)
            refine d_jp_I (0) (0) 458 (fun x48 => [(0, .ref (x + 0)), (1, .ref (x + 205 + 0)), (2, .ref (x + 205 + 1)), (3, .ref (x + 205 + 2)), (4, .ref (x + 205 + 6)), (5, vI x2), (6, vI x3), (7, vI x28), (8, vI x29), (9, vI x30), (10, vI x31), (11, vI r32), (12, vI v38), (13, vI r40), (14, vI v43)]) (fun x48 => [vI x48, vI r44]) (fun x48 hx48 => ?_) (fun j47 hj47 => ?_)
            · refine s_iadd hC dL_same_458 ?_
              refine s_ck0 (fun v49 hv49 => ?_)
              refine s_istore (L' := [(15, vI v49), (0, .ref (x + 0)), (1, .ref (x + 205 + 0)), (2, .ref (x + 205 + 1)), (3, .ref (x + 205 + 2)), (4, .ref (x + 205 + 6)), (5, vI x2), (6, vI x3), (7, vI x28), (8, vI x29), (9, vI x30), (10, vI x31), (11, vI r32), (12, vI v38), (13, vI r40), (14, vI v43)]) hC dL_same_459 (by decide) rfl ?_
              refine s_iload hC dL_same_461 12 rfl ?_
              refine s_aload_n hC dL_same_463 rfl 3 rfl ?_
              refine s_aload_n hC dL_same_464 rfl 4 rfl ?_
              refine s_aload_n hC dL_same_465 rfl 2 rfl ?_
              refine s_iconst hC dL_same_466 ?_
              refine s_iaload (b := x + 205) hC hK (fun H h => (hI H h).2) hτ (by decide) a_Tab_0 dL_same_467 (fun v50 hv50 => ?_)
              refine s_callS_P (As := [vI r32, .ref (x + 205 + 1), .ref (x + 205 + 2), vI v50]) (rest := []) hC hKA 4 (m_L_cost (b := x + 205) (fun H h => (hI H h).2) hτ hr32 (by decide) a_Tab_1 (by decide) a_Tab_2 hv50) rfl (cb_of hC 4 q_c_yL_cost q_i_L q_m_L_49 rfl rfl dd_yL_cost ⟨Nat.le_of_ble_eq_true rfl, Nat.le_of_ble_eq_true rfl⟩) q_s_yL_cost rfl (Nat.le_of_ble_eq_true rfl) dL_same_468 ⟨Nat.le_of_ble_eq_true rfl, Nat.le_of_ble_eq_true rfl⟩ (fun r51 hr51 => ?_)
              refine s_istore (L' := [(16, vI r51), (15, vI v49), (0, .ref (x + 0)), (1, .ref (x + 205 + 0)), (2, .ref (x + 205 + 1)), (3, .ref (x + 205 + 2)), (4, .ref (x + 205 + 6)), (5, vI x2), (6, vI x3), (7, vI x28), (8, vI x29), (9, vI x30), (10, vI x31), (11, vI r32), (12, vI v38), (13, vI r40), (14, vI v43)]) hC dL_same_471 (by decide) rfl ?_
              refine s_aload_n hC dL_same_473 rfl 2 rfl ?_
              refine s_iload hC dL_same_474 11 rfl ?_
              refine s_iincK hC dL_same_476 11 rfl (by decide) (fun v52 => [(9, vI v52), (16, vI r51), (15, vI v49), (0, .ref (x + 0)), (1, .ref (x + 205 + 0)), (2, .ref (x + 205 + 1)), (3, .ref (x + 205 + 2)), (4, .ref (x + 205 + 6)), (5, vI x2), (6, vI x3), (7, vI x28), (8, vI x29), (10, vI x31), (11, vI r32), (12, vI v38), (13, vI r40), (14, vI v43)]) (fun _ => rfl) (fun v52 hv52 => ?_)
              refine s_callV_P (As := [vI x30]) (rest := []) (a := x + 0) hC hKA 1 (m_X4_key (x := x) (y0 := x + 212) (by omega) (fun H h => (hI H h).1) hσ hB hx30) rfl (cb_of hC 1 q_c_yX4_key q_i_X4 q_m_L_66 rfl rfl dd_yX4_key ⟨Nat.le_of_ble_eq_true rfl, Nat.le_of_ble_eq_true rfl⟩) q_i_yX4_key q_x_yX4_key (s_recv hK (fun H h => (hI H h).1.x) (by decide) o_X rfl) rfl (Nat.le_of_ble_eq_true rfl) dL_same_479 ⟨Nat.le_of_ble_eq_true rfl, Nat.le_of_ble_eq_true rfl⟩ (fun r53 hr53 => ?_)
              refine s_iload hC dL_same_482 12 rfl ?_
              refine s_icmp_eq (tgt := 489) hC dL_same_484 (by decide) hr53 hx31 ?_ ?_
              · refine s_sub (L' := [(0, .ref (x + 0)), (1, .ref (x + 205 + 0)), (2, .ref (x + 205 + 1)), (3, .ref (x + 205 + 2)), (4, .ref (x + 205 + 6)), (5, vI x2), (6, vI x3), (7, vI x28), (8, vI x29), (9, vI v52), (10, vI x31), (11, vI r32), (12, vI v38), (13, vI r40), (14, vI v43), (15, vI v49), (16, vI r51)]) [3, 4, 5, 6, 7, 8, 9, 10, 11, 0, 12, 13, 14, 15, 16, 2, 1] rfl ?_
                refine s_iconst hC dL_same_489 ?_
                refine s_istore (L' := [(17, vI 0), (0, .ref (x + 0)), (1, .ref (x + 205 + 0)), (2, .ref (x + 205 + 1)), (3, .ref (x + 205 + 2)), (4, .ref (x + 205 + 6)), (5, vI x2), (6, vI x3), (7, vI x28), (8, vI x29), (9, vI v52), (10, vI x31), (11, vI r32), (12, vI v38), (13, vI r40), (14, vI v43), (15, vI v49), (16, vI r51)]) hC dL_same_490 (by decide) rfl ?_
                refine s_sub (L' := [(0, .ref (x + 0)), (1, .ref (x + 205 + 0)), (2, .ref (x + 205 + 1)), (3, .ref (x + 205 + 2)), (4, .ref (x + 205 + 6)), (5, vI x2), (6, vI x3), (7, vI x28), (8, vI x29), (9, vI v52), (10, vI x31), (11, vI r32), (12, vI v38), (13, vI r40), (14, vI v43), (15, vI v49), (16, vI r51), (17, vI 0)]) [1, 2, 3, 4, 5, 6, 7, 8, 9, 10, 11, 12, 13, 14, 15, 16, 17, 0] rfl ?_
                refine d_jp_I (0) (0) 590 (fun x55 => [(0, .ref (x + 0)), (1, .ref (x + 205 + 0)), (2, .ref (x + 205 + 1)), (3, .ref (x + 205 + 2)), (4, .ref (x + 205 + 6)), (5, vI x2), (6, vI x3), (7, vI x28), (8, vI x29), (9, vI v52), (10, vI x31), (11, vI r32), (12, vI v38), (13, vI r40), (14, vI v43), (15, vI x55), (16, vI r51)]) (fun x55 => []) (fun x55 hx55 => ?_) (fun j54 hj54 => ?_)
                · refine s_iconst hC dL_same_590 ?_
                  refine s_istore (L' := [(17, vI 0), (0, .ref (x + 0)), (1, .ref (x + 205 + 0)), (2, .ref (x + 205 + 1)), (3, .ref (x + 205 + 2)), (4, .ref (x + 205 + 6)), (5, vI x2), (6, vI x3), (7, vI x28), (8, vI x29), (9, vI v52), (10, vI x31), (11, vI r32), (12, vI v38), (13, vI r40), (14, vI v43), (15, vI x55), (16, vI r51)]) hC dL_same_591 (by decide) rfl ?_
                  refine s_sub (L' := [(0, .ref (x + 0)), (1, .ref (x + 205 + 0)), (2, .ref (x + 205 + 1)), (3, .ref (x + 205 + 2)), (4, .ref (x + 205 + 6)), (5, vI x2), (6, vI x3), (7, vI x28), (8, vI x29), (9, vI v52), (10, vI x31), (11, vI r32), (12, vI v38), (13, vI r40), (14, vI v43), (15, vI x55), (16, vI r51), (17, vI 0)]) [1, 2, 3, 4, 5, 6, 7, 8, 9, 10, 11, 12, 13, 14, 15, 16, 17, 0] rfl ?_
                  refine d_jp_ (0) (0) 632 ([(0, .ref (x + 0)), (1, .ref (x + 205 + 0)), (2, .ref (x + 205 + 1)), (3, .ref (x + 205 + 2)), (4, .ref (x + 205 + 6)), (5, vI x2), (6, vI x3), (7, vI x28), (8, vI x29), (9, vI v52), (10, vI x31), (12, vI v38), (13, vI r40), (14, vI v43), (15, vI x55), (16, vI r51)]) ([]) ?_ (fun j56 hj56 => ?_)
                  · refine s_iload hC dL_same_632 7 rfl ?_
                    refine s_aload_n hC dL_same_634 rfl 2 rfl ?_
                    refine s_iload hC dL_same_635 11 rfl ?_
                    refine s_iconst hC dL_same_637 ?_
                    refine s_iadd hC dL_same_638 ?_
                    refine s_iaload (b := x + 205) hC hK (fun H h => (hI H h).2) hτ (by decide) a_Tab_1 dL_same_639 (fun v57 hv57 => ?_)
                    refine s_iadd hC dL_same_640 ?_
                    refine s_ck0 (fun v58 hv58 => ?_)
                    refine s_istore (L' := [(7, vI v58), (0, .ref (x + 0)), (1, .ref (x + 205 + 0)), (2, .ref (x + 205 + 1)), (3, .ref (x + 205 + 2)), (4, .ref (x + 205 + 6)), (5, vI x2), (6, vI x3), (8, vI x29), (9, vI v52), (10, vI x31), (12, vI v38), (13, vI r40), (14, vI v43), (15, vI x55), (16, vI r51)]) hC dL_same_641 (by decide) rfl ?_
                    refine s_iload hC dL_same_643 15 rfl ?_
                    refine s_iload hC dL_same_645 8 rfl ?_
                    refine d_jp_I (0) (0) 657 (fun x60 => [(0, .ref (x + 0)), (1, .ref (x + 205 + 0)), (2, .ref (x + 205 + 1)), (3, .ref (x + 205 + 2)), (4, .ref (x + 205 + 6)), (5, vI x2), (6, vI x3), (7, vI v58), (9, vI v52), (10, vI x31), (12, vI v38), (13, vI r40), (14, vI v43), (15, vI x55), (16, vI r51)]) (fun x60 => [vI x60]) (fun x60 hx60 => ?_) (fun j59 hj59 => ?_)
                    · refine s_istore (L' := [(8, vI x60), (0, .ref (x + 0)), (1, .ref (x + 205 + 0)), (2, .ref (x + 205 + 1)), (3, .ref (x + 205 + 2)), (4, .ref (x + 205 + 6)), (5, vI x2), (6, vI x3), (7, vI v58), (9, vI v52), (10, vI x31), (12, vI v38), (13, vI r40), (14, vI v43), (15, vI x55), (16, vI r51)]) hC dL_same_657 (by decide) rfl ?_
                      refine s_aload_n hC dL_same_659 rfl 1 rfl ?_
                      refine s_iload hC dL_same_660 10 rfl ?_
                      refine s_iconst hC dL_same_662 ?_
                      refine s_callV_P (As := [vI x31, vI 0]) (rest := []) (a := x + 0) hC hKA 2 (m_X4_row (x := x) (y0 := x + 212) (by omega) (fun H h => (hI H h).1) hσ hB hx31 (inR_c _ rfl)) rfl (cb_of hC 2 q_c_yX4_row q_i_X4 q_m_L_63 rfl rfl dd_yX4_row ⟨Nat.le_of_ble_eq_true rfl, Nat.le_of_ble_eq_true rfl⟩) q_i_yX4_row q_x_yX4_row (s_recv hK (fun H h => (hI H h).1.x) (by decide) o_X rfl) rfl (Nat.le_of_ble_eq_true rfl) dL_same_663 ⟨Nat.le_of_ble_eq_true rfl, Nat.le_of_ble_eq_true rfl⟩ (fun r61 hr61 => ?_)
                      refine s_aload_n hC dL_same_666 rfl 3 rfl ?_
                      refine s_iload hC dL_same_667 11 rfl ?_
                      refine s_iconst hC dL_same_669 ?_
                      refine s_iadd hC dL_same_670 ?_
                      refine s_iaload (b := x + 205) hC hK (fun H h => (hI H h).2) hτ (by decide) a_Tab_1 dL_same_671 (fun v62 hv62 => ?_)
                      refine s_icmp_ne (tgt := 865) hC dL_same_672 (by decide) hr61 hv62 ?_ ?_
                      · refine s_sub (L' := []) [] rfl ?_
                        refine s_iconst hC dL_same_865 ?_
                        exact s_zret hC hr (Or.inl rfl) dL_same_866 (fun H hH => ⟨rfl, (inR_c _ rfl), hH⟩)
                      · refine s_sub (L' := [(0, .ref (x + 0)), (1, .ref (x + 205 + 0)), (2, .ref (x + 205 + 1)), (3, .ref (x + 205 + 2)), (4, .ref (x + 205 + 6)), (5, vI x2), (6, vI x3), (7, vI v58), (8, vI x60), (9, vI v52), (10, vI x31), (12, vI v38), (13, vI r40), (14, vI v43), (15, vI x55), (16, vI r51)]) [1, 2, 3, 4, 5, 6, 7, 8, 0, 9, 10, 11, 12, 13, 14, 15] rfl ?_
                        refine s_aload_n hC dL_same_675 rfl 0 rfl ?_
                        refine s_iload hC dL_same_676 10 rfl ?_
                        refine s_iconst hC dL_same_678 ?_
                        refine s_callV_P (As := [vI x31, vI 1]) (rest := []) (a := x + 0) hC hKA 2 (m_X4_row (x := x) (y0 := x + 212) (by omega) (fun H h => (hI H h).1) hσ hB hx31 (inR_c _ rfl)) rfl (cb_of hC 2 q_c_yX4_row q_i_X4 q_m_L_63 rfl rfl dd_yX4_row ⟨Nat.le_of_ble_eq_true rfl, Nat.le_of_ble_eq_true rfl⟩) q_i_yX4_row q_x_yX4_row (s_recv hK (fun H h => (hI H h).1.x) (by decide) o_X rfl) rfl (Nat.le_of_ble_eq_true rfl) dL_same_679 ⟨Nat.le_of_ble_eq_true rfl, Nat.le_of_ble_eq_true rfl⟩ (fun r63 hr63 => ?_)
                        refine s_aload_n hC dL_same_682 rfl 2 rfl ?_
                        refine s_iload hC dL_same_683 11 rfl ?_
                        refine s_iconst hC dL_same_685 ?_
                        refine s_iadd hC dL_same_686 ?_
                        refine s_iaload (b := x + 205) hC hK (fun H h => (hI H h).2) hτ (by decide) a_Tab_1 dL_same_687 (fun v64 hv64 => ?_)
                        refine s_bipush hC dL_same_688 (by decide) ?_
                        refine s_idiv hC dL_same_690 hv64 (inR_c _ rfl) (by decide) (fun v65 hv65 => ?_)
                        refine s_icmp_ne (tgt := 865) hC dL_same_691 (by decide) hr63 hv65 ?_ ?_
                        · refine s_sub (L' := []) [] rfl ?_
                          refine s_iconst hC dL_same_865 ?_
                          exact s_zret hC hr (Or.inl rfl) dL_same_866 (fun H hH => ⟨rfl, (inR_c _ rfl), hH⟩)
                        · refine s_aload_n hC dL_same_694 rfl 0 rfl ?_
                          refine s_iload hC dL_same_695 10 rfl ?_
                          refine s_iconst hC dL_same_697 ?_
                          refine s_callV_P (As := [vI x31, vI 2]) (rest := []) (a := x + 0) hC hKA 2 (m_X4_row (x := x) (y0 := x + 212) (by omega) (fun H h => (hI H h).1) hσ hB hx31 (inR_c _ rfl)) rfl (cb_of hC 2 q_c_yX4_row q_i_X4 q_m_L_63 rfl rfl dd_yX4_row ⟨Nat.le_of_ble_eq_true rfl, Nat.le_of_ble_eq_true rfl⟩) q_i_yX4_row q_x_yX4_row (s_recv hK (fun H h => (hI H h).1.x) (by decide) o_X rfl) rfl (Nat.le_of_ble_eq_true rfl) dL_same_698 ⟨Nat.le_of_ble_eq_true rfl, Nat.le_of_ble_eq_true rfl⟩ (fun r66 hr66 => ?_)
                          refine s_aload_n hC dL_same_701 rfl 2 rfl ?_
                          refine s_iload hC dL_same_702 11 rfl ?_
                          refine s_iconst hC dL_same_704 ?_
                          refine s_iadd hC dL_same_705 ?_
                          refine s_iaload (b := x + 205) hC hK (fun H h => (hI H h).2) hτ (by decide) a_Tab_1 dL_same_706 (fun v67 hv67 => ?_)
                          refine s_bipush hC dL_same_707 (by decide) ?_
                          refine s_irem hC dL_same_709 hv67 (inR_c _ rfl) (by decide) (fun v68 hv68 => ?_)
                          refine s_icmp_ne (tgt := 865) hC dL_same_710 (by decide) hr66 hv68 ?_ ?_
                          · refine s_sub (L' := []) [] rfl ?_
                            refine s_iconst hC dL_same_865 ?_
                            exact s_zret hC hr (Or.inl rfl) dL_same_866 (fun H hH => ⟨rfl, (inR_c _ rfl), hH⟩)
                          · refine s_aload_n hC dL_same_713 rfl 0 rfl ?_
                            refine s_iload hC dL_same_714 10 rfl ?_
                            refine s_iconst hC dL_same_716 ?_
                            refine s_callV_P (As := [vI x31, vI 3]) (rest := []) (a := x + 0) hC hKA 2 (m_X4_row (x := x) (y0 := x + 212) (by omega) (fun H h => (hI H h).1) hσ hB hx31 (inR_c _ rfl)) rfl (cb_of hC 2 q_c_yX4_row q_i_X4 q_m_L_63 rfl rfl dd_yX4_row ⟨Nat.le_of_ble_eq_true rfl, Nat.le_of_ble_eq_true rfl⟩) q_i_yX4_row q_x_yX4_row (s_recv hK (fun H h => (hI H h).1.x) (by decide) o_X rfl) rfl (Nat.le_of_ble_eq_true rfl) dL_same_717 ⟨Nat.le_of_ble_eq_true rfl, Nat.le_of_ble_eq_true rfl⟩ (fun r69 hr69 => ?_)
                            refine s_aload_n hC dL_same_720 rfl 2 rfl ?_
                            refine s_iload hC dL_same_721 11 rfl ?_
                            refine s_iconst hC dL_same_723 ?_
                            refine s_iadd hC dL_same_724 ?_
                            refine s_iaload (b := x + 205) hC hK (fun H h => (hI H h).2) hτ (by decide) a_Tab_1 dL_same_725 (fun v70 hv70 => ?_)
                            refine s_bipush hC dL_same_726 (by decide) ?_
                            refine s_idiv hC dL_same_728 hv70 (inR_c _ rfl) (by decide) (fun v71 hv71 => ?_)
                            refine s_icmp_ne (tgt := 865) hC dL_same_729 (by decide) hr69 hv71 ?_ ?_
                            · refine s_sub (L' := []) [] rfl ?_
                              refine s_iconst hC dL_same_865 ?_
                              exact s_zret hC hr (Or.inl rfl) dL_same_866 (fun H hH => ⟨rfl, (inR_c _ rfl), hH⟩)
                            · refine s_aload_n hC dL_same_732 rfl 0 rfl ?_
                              refine s_iload hC dL_same_733 10 rfl ?_
                              refine s_iconst hC dL_same_735 ?_
                              refine s_callV_P (As := [vI x31, vI 4]) (rest := []) (a := x + 0) hC hKA 2 (m_X4_row (x := x) (y0 := x + 212) (by omega) (fun H h => (hI H h).1) hσ hB hx31 (inR_c _ rfl)) rfl (cb_of hC 2 q_c_yX4_row q_i_X4 q_m_L_63 rfl rfl dd_yX4_row ⟨Nat.le_of_ble_eq_true rfl, Nat.le_of_ble_eq_true rfl⟩) q_i_yX4_row q_x_yX4_row (s_recv hK (fun H h => (hI H h).1.x) (by decide) o_X rfl) rfl (Nat.le_of_ble_eq_true rfl) dL_same_736 ⟨Nat.le_of_ble_eq_true rfl, Nat.le_of_ble_eq_true rfl⟩ (fun r72 hr72 => ?_)
                              refine s_aload_n hC dL_same_739 rfl 2 rfl ?_
                              refine s_iload hC dL_same_740 11 rfl ?_
                              refine s_iconst hC dL_same_742 ?_
                              refine s_iadd hC dL_same_743 ?_
                              refine s_iaload (b := x + 205) hC hK (fun H h => (hI H h).2) hτ (by decide) a_Tab_1 dL_same_744 (fun v73 hv73 => ?_)
                              refine s_bipush hC dL_same_745 (by decide) ?_
                              refine s_irem hC dL_same_747 hv73 (inR_c _ rfl) (by decide) (fun v74 hv74 => ?_)
                              refine s_icmp_ne (tgt := 865) hC dL_same_748 (by decide) hr72 hv74 ?_ ?_
                              · refine s_sub (L' := []) [] rfl ?_
                                refine s_iconst hC dL_same_865 ?_
                                exact s_zret hC hr (Or.inl rfl) dL_same_866 (fun H hH => ⟨rfl, (inR_c _ rfl), hH⟩)
                              · refine s_aload_n hC dL_same_751 rfl 0 rfl ?_
                                refine s_iload hC dL_same_752 10 rfl ?_
                                refine s_iconst hC dL_same_754 ?_
                                refine s_callV_P (As := [vI x31, vI 5]) (rest := []) (a := x + 0) hC hKA 2 (m_X4_row (x := x) (y0 := x + 212) (by omega) (fun H h => (hI H h).1) hσ hB hx31 (inR_c _ rfl)) rfl (cb_of hC 2 q_c_yX4_row q_i_X4 q_m_L_63 rfl rfl dd_yX4_row ⟨Nat.le_of_ble_eq_true rfl, Nat.le_of_ble_eq_true rfl⟩) q_i_yX4_row q_x_yX4_row (s_recv hK (fun H h => (hI H h).1.x) (by decide) o_X rfl) rfl (Nat.le_of_ble_eq_true rfl) dL_same_755 ⟨Nat.le_of_ble_eq_true rfl, Nat.le_of_ble_eq_true rfl⟩ (fun r75 hr75 => ?_)
                                refine s_aload_n hC dL_same_758 rfl 2 rfl ?_
                                refine s_iload hC dL_same_759 11 rfl ?_
                                refine s_iconst hC dL_same_761 ?_
                                refine s_iadd hC dL_same_762 ?_
                                refine s_iaload (b := x + 205) hC hK (fun H h => (hI H h).2) hτ (by decide) a_Tab_1 dL_same_763 (fun v76 hv76 => ?_)
                                refine s_aload_n hC dL_same_764 rfl 2 rfl ?_
                                refine s_iload hC dL_same_765 11 rfl ?_
                                refine s_iconst hC dL_same_767 ?_
                                refine s_iadd hC dL_same_768 ?_
                                refine s_iaload (b := x + 205) hC hK (fun H h => (hI H h).2) hτ (by decide) a_Tab_1 dL_same_769 (fun v77 hv77 => ?_)
                                refine d_jp_I (0) (0) 778 (fun x79 => [(0, .ref (x + 0)), (1, .ref (x + 205 + 0)), (2, .ref (x + 205 + 1)), (3, .ref (x + 205 + 2)), (4, .ref (x + 205 + 6)), (5, vI x2), (6, vI x3), (7, vI v58), (8, vI x60), (9, vI v52), (10, vI x31), (12, vI v38), (13, vI r40), (14, vI v43), (15, vI x55), (16, vI r51)]) (fun x79 => [vI x79, vI r75]) (fun x79 hx79 => ?_) (fun j78 hj78 => ?_)
                                · refine s_icmp_ne (tgt := 865) hC dL_same_778 (by decide) hr75 hx79 ?_ ?_
                                  · refine s_sub (L' := []) [] rfl ?_
                                    refine s_iconst hC dL_same_865 ?_
                                    exact s_zret hC hr (Or.inl rfl) dL_same_866 (fun H hH => ⟨rfl, (inR_c _ rfl), hH⟩)
                                  · refine s_aload_n hC dL_same_781 rfl 0 rfl ?_
                                    refine s_iload hC dL_same_782 10 rfl ?_
                                    refine s_bipush hC dL_same_784 (by decide) ?_
                                    refine s_callV_P (As := [vI x31, vI 6]) (rest := []) (a := x + 0) hC hKA 2 (m_X4_row (x := x) (y0 := x + 212) (by omega) (fun H h => (hI H h).1) hσ hB hx31 (inR_c _ rfl)) rfl (cb_of hC 2 q_c_yX4_row q_i_X4 q_m_L_63 rfl rfl dd_yX4_row ⟨Nat.le_of_ble_eq_true rfl, Nat.le_of_ble_eq_true rfl⟩) q_i_yX4_row q_x_yX4_row (s_recv hK (fun H h => (hI H h).1.x) (by decide) o_X rfl) rfl (Nat.le_of_ble_eq_true rfl) dL_same_786 ⟨Nat.le_of_ble_eq_true rfl, Nat.le_of_ble_eq_true rfl⟩ (fun r80 hr80 => ?_)
                                    refine s_iload hC dL_same_789 13 rfl ?_
                                    refine s_bipush hC dL_same_791 (by decide) ?_
                                    refine s_iand hC dL_same_793 ?_
                                    refine s_icmp_ne (tgt := 865) hC dL_same_794 (by decide) hr80 (i32_in _) ?_ ?_
                                    · refine s_sub (L' := []) [] rfl ?_
                                      refine s_iconst hC dL_same_865 ?_
                                      exact s_zret hC hr (Or.inl rfl) dL_same_866 (fun H hH => ⟨rfl, (inR_c _ rfl), hH⟩)
                                    · refine s_sub (L' := [(0, .ref (x + 0)), (1, .ref (x + 205 + 0)), (2, .ref (x + 205 + 1)), (3, .ref (x + 205 + 2)), (4, .ref (x + 205 + 6)), (5, vI x2), (6, vI x3), (7, vI v58), (8, vI x60), (9, vI v52), (10, vI x31), (12, vI v38), (13, vI r40), (15, vI x55), (16, vI r51)]) [0, 1, 2, 3, 4, 5, 6, 7, 8, 9, 10, 11, 12, 14, 15] rfl ?_
                                      refine s_aload_n hC dL_same_797 rfl 0 rfl ?_
                                      refine s_iload hC dL_same_798 10 rfl ?_
                                      refine s_bipush hC dL_same_800 (by decide) ?_
                                      refine s_callV_P (As := [vI x31, vI 7]) (rest := []) (a := x + 0) hC hKA 2 (m_X4_row (x := x) (y0 := x + 212) (by omega) (fun H h => (hI H h).1) hσ hB hx31 (inR_c _ rfl)) rfl (cb_of hC 2 q_c_yX4_row q_i_X4 q_m_L_63 rfl rfl dd_yX4_row ⟨Nat.le_of_ble_eq_true rfl, Nat.le_of_ble_eq_true rfl⟩) q_i_yX4_row q_x_yX4_row (s_recv hK (fun H h => (hI H h).1.x) (by decide) o_X rfl) rfl (Nat.le_of_ble_eq_true rfl) dL_same_802 ⟨Nat.le_of_ble_eq_true rfl, Nat.le_of_ble_eq_true rfl⟩ (fun r81 hr81 => ?_)
                                      refine s_iload hC dL_same_805 12 rfl ?_
                                      refine s_icmp_ne (tgt := 865) hC dL_same_807 (by decide) hr81 hr40 ?_ ?_
                                      · refine s_sub (L' := []) [] rfl ?_
                                        refine s_iconst hC dL_same_865 ?_
                                        exact s_zret hC hr (Or.inl rfl) dL_same_866 (fun H hH => ⟨rfl, (inR_c _ rfl), hH⟩)
                                      · refine s_aload_n hC dL_same_810 rfl 0 rfl ?_
                                        refine s_iload hC dL_same_811 10 rfl ?_
                                        refine s_bipush hC dL_same_813 (by decide) ?_
                                        refine s_callV_P (As := [vI x31, vI 8]) (rest := []) (a := x + 0) hC hKA 2 (m_X4_row (x := x) (y0 := x + 212) (by omega) (fun H h => (hI H h).1) hσ hB hx31 (inR_c _ rfl)) rfl (cb_of hC 2 q_c_yX4_row q_i_X4 q_m_L_63 rfl rfl dd_yX4_row ⟨Nat.le_of_ble_eq_true rfl, Nat.le_of_ble_eq_true rfl⟩) q_i_yX4_row q_x_yX4_row (s_recv hK (fun H h => (hI H h).1.x) (by decide) o_X rfl) rfl (Nat.le_of_ble_eq_true rfl) dL_same_815 ⟨Nat.le_of_ble_eq_true rfl, Nat.le_of_ble_eq_true rfl⟩ (fun r82 hr82 => ?_)
                                        refine s_iload hC dL_same_818 14 rfl ?_
                                        refine s_icmp_ne (tgt := 865) hC dL_same_820 (by decide) hr82 hr51 ?_ ?_
                                        · refine s_sub (L' := []) [] rfl ?_
                                          refine s_iconst hC dL_same_865 ?_
                                          exact s_zret hC hr (Or.inl rfl) dL_same_866 (fun H hH => ⟨rfl, (inR_c _ rfl), hH⟩)
                                        · refine s_sub (L' := [(0, .ref (x + 0)), (1, .ref (x + 205 + 0)), (2, .ref (x + 205 + 1)), (3, .ref (x + 205 + 2)), (4, .ref (x + 205 + 6)), (5, vI x2), (6, vI x3), (7, vI v58), (8, vI x60), (9, vI v52), (10, vI x31), (12, vI v38), (13, vI r40), (15, vI x55)]) [0, 1, 2, 3, 4, 5, 6, 7, 8, 9, 10, 11, 12, 13] rfl ?_
                                          refine s_aload_n hC dL_same_823 rfl 0 rfl ?_
                                          refine s_iload hC dL_same_824 10 rfl ?_
                                          refine s_bipush hC dL_same_826 (by decide) ?_
                                          refine s_callV_P (As := [vI x31, vI 9]) (rest := []) (a := x + 0) hC hKA 2 (m_X4_row (x := x) (y0 := x + 212) (by omega) (fun H h => (hI H h).1) hσ hB hx31 (inR_c _ rfl)) rfl (cb_of hC 2 q_c_yX4_row q_i_X4 q_m_L_63 rfl rfl dd_yX4_row ⟨Nat.le_of_ble_eq_true rfl, Nat.le_of_ble_eq_true rfl⟩) q_i_yX4_row q_x_yX4_row (s_recv hK (fun H h => (hI H h).1.x) (by decide) o_X rfl) rfl (Nat.le_of_ble_eq_true rfl) dL_same_828 ⟨Nat.le_of_ble_eq_true rfl, Nat.le_of_ble_eq_true rfl⟩ (fun r83 hr83 => ?_)
                                          refine s_iload hC dL_same_831 13 rfl ?_
                                          refine s_icmp_ne (tgt := 865) hC dL_same_833 (by decide) hr83 hx55 ?_ ?_
                                          · refine s_sub (L' := []) [] rfl ?_
                                            refine s_iconst hC dL_same_865 ?_
                                            exact s_zret hC hr (Or.inl rfl) dL_same_866 (fun H hH => ⟨rfl, (inR_c _ rfl), hH⟩)
                                          · refine s_sub (L' := [(0, .ref (x + 0)), (1, .ref (x + 205 + 0)), (2, .ref (x + 205 + 1)), (3, .ref (x + 205 + 2)), (4, .ref (x + 205 + 6)), (5, vI x2), (6, vI x3), (7, vI v58), (8, vI x60), (9, vI v52), (10, vI x31), (12, vI v38), (13, vI r40)]) [0, 1, 2, 3, 4, 5, 6, 7, 8, 9, 10, 11, 12] rfl ?_
                                            refine s_aload_n hC dL_same_836 rfl 0 rfl ?_
                                            refine s_iload hC dL_same_837 10 rfl ?_
                                            refine s_aload_n hC dL_same_839 rfl 2 rfl ?_
                                            refine s_iload hC dL_same_840 11 rfl ?_
                                            refine s_iconst hC dL_same_842 ?_
                                            refine s_iadd hC dL_same_843 ?_
                                            refine s_iaload (b := x + 205) hC hK (fun H h => (hI H h).2) hτ (by decide) a_Tab_1 dL_same_844 (fun v84 hv84 => ?_)
                                            refine s_callV_P (As := [vI x31, vI v84]) (rest := []) (a := x + 0) hC hKA 2 (m_X4_letter (x := x) (y0 := x + 212) (by omega) (fun H h => (hI H h).1) hσ hB hx31 hv84) rfl (cb_of hC 2 q_c_yX4_letter q_i_X4 q_m_L_72 rfl rfl dd_yX4_letter ⟨Nat.le_of_ble_eq_true rfl, Nat.le_of_ble_eq_true rfl⟩) q_i_yX4_letter q_x_yX4_letter (s_recv hK (fun H h => (hI H h).1.x) (by decide) o_X rfl) rfl (Nat.le_of_ble_eq_true rfl) dL_same_845 ⟨Nat.le_of_ble_eq_true rfl, Nat.le_of_ble_eq_true rfl⟩ (fun r85 hr85 => ?_)
                                            refine s_iconst hC dL_same_848 ?_
                                            refine s_icmp_ne (tgt := 865) hC dL_same_849 (by decide) hr85 (inR_c _ rfl) ?_ ?_
                                            · refine s_sub (L' := []) [] rfl ?_
                                              refine s_iconst hC dL_same_865 ?_
                                              exact s_zret hC hr (Or.inl rfl) dL_same_866 (fun H hH => ⟨rfl, (inR_c _ rfl), hH⟩)
                                            · refine s_sub (L' := [(0, .ref (x + 0)), (1, .ref (x + 205 + 0)), (2, .ref (x + 205 + 1)), (3, .ref (x + 205 + 2)), (4, .ref (x + 205 + 6)), (5, vI x2), (6, vI x3), (7, vI v58), (8, vI x60), (9, vI v52), (10, vI x31), (13, vI r40)]) [0, 1, 2, 3, 4, 5, 6, 7, 8, 9, 10, 12] rfl ?_
                                              refine s_aload_n hC dL_same_852 rfl 0 rfl ?_
                                              refine s_iload hC dL_same_853 10 rfl ?_
                                              refine s_iload hC dL_same_855 11 rfl ?_
                                              refine s_iconst hC dL_same_857 ?_
                                              refine s_callV_P (As := [vI x31, vI r40, vI 0]) (rest := []) (a := x + 0) hC hKA 3 (m_X4_piece (x := x) (y0 := x + 212) (by omega) (fun H h => (hI H h).1) hσ hB hx31 hr40 (inR_c _ rfl)) rfl (cb_of hC 3 q_c_yX4_piece q_i_X4 q_m_L_69 rfl rfl dd_yX4_piece ⟨Nat.le_of_ble_eq_true rfl, Nat.le_of_ble_eq_true rfl⟩) q_i_yX4_piece q_x_yX4_piece (s_recv hK (fun H h => (hI H h).1.x) (by decide) o_X rfl) rfl (Nat.le_of_ble_eq_true rfl) dL_same_858 ⟨Nat.le_of_ble_eq_true rfl, Nat.le_of_ble_eq_true rfl⟩ (fun r86 hr86 => ?_)
                                              refine s_iconst hC dL_same_861 ?_
                                              refine s_icmp_eq (tgt := 867) hC dL_same_862 (by decide) hr86 (inR_c _ rfl) ?_ ?_
                                              · refine s_sub (L' := [(0, .ref (x + 0)), (1, .ref (x + 205 + 0)), (2, .ref (x + 205 + 1)), (3, .ref (x + 205 + 2)), (4, .ref (x + 205 + 6)), (5, vI x2), (6, vI x3), (7, vI v58), (8, vI x60), (9, vI v52), (10, vI x31)]) [0, 1, 2, 3, 4, 5, 6, 7, 8, 9, 10] rfl ?_
                                                exact hj33 v58 x60 v52 hv58 hx60 hv52
                                              · refine s_sub (L' := []) [] rfl ?_
                                                refine s_iconst hC dL_same_865 ?_
                                                exact s_zret hC hr (Or.inl rfl) dL_same_866 (fun H hH => ⟨rfl, (inR_c _ rfl), hH⟩)
                                · refine s_icmp_ne (tgt := 777) hC dL_same_770 (by decide) hv76 hv77 ?_ ?_
                                  · refine s_iconst hC dL_same_777 ?_
                                    exact hj78 1 (inR_c _ rfl)
                                  · refine s_iconst hC dL_same_773 ?_
                                    refine s_goto (tgt := 778) hC dL_same_774 (by decide) ?_
                                    exact hj78 0 (inR_c _ rfl)
                    · refine s_icmp_le (tgt := 655) hC dL_same_647 (by decide) hr51 hx29 ?_ ?_
                      · refine s_sub (L' := [(0, .ref (x + 0)), (1, .ref (x + 205 + 0)), (2, .ref (x + 205 + 1)), (3, .ref (x + 205 + 2)), (4, .ref (x + 205 + 6)), (5, vI x2), (6, vI x3), (7, vI v58), (8, vI x29), (9, vI v52), (10, vI x31), (12, vI v38), (13, vI r40), (14, vI v43), (15, vI x55), (16, vI r51)]) [1, 2, 3, 4, 5, 6, 7, 0, 8, 9, 10, 11, 12, 13, 14, 15] rfl ?_
                        refine s_iload hC dL_same_655 8 rfl ?_
                        refine s_sub (L' := [(0, .ref (x + 0)), (1, .ref (x + 205 + 0)), (2, .ref (x + 205 + 1)), (3, .ref (x + 205 + 2)), (4, .ref (x + 205 + 6)), (5, vI x2), (6, vI x3), (7, vI v58), (9, vI v52), (10, vI x31), (12, vI v38), (13, vI r40), (14, vI v43), (15, vI x55), (16, vI r51)]) [0, 1, 2, 3, 4, 5, 6, 7, 9, 10, 11, 12, 13, 14, 15] rfl ?_
                        exact hj59 x29 hx29
                      · refine s_sub (L' := [(0, .ref (x + 0)), (1, .ref (x + 205 + 0)), (2, .ref (x + 205 + 1)), (3, .ref (x + 205 + 2)), (4, .ref (x + 205 + 6)), (5, vI x2), (6, vI x3), (7, vI v58), (9, vI v52), (10, vI x31), (12, vI v38), (13, vI r40), (14, vI v43), (15, vI x55), (16, vI r51)]) [1, 2, 3, 4, 5, 6, 7, 0, 9, 10, 11, 12, 13, 14, 15] rfl ?_
                        refine s_iload hC dL_same_650 14 rfl ?_
                        refine s_goto (tgt := 657) hC dL_same_652 (by decide) ?_
                        exact hj59 r51 hr51
                  · refine d_lp_I (F := g_L_same_L593 σ B nb τ x31 r32 v38 j56) 593 (fun x87 => [(0, .ref (x + 0)), (1, .ref (x + 205 + 0)), (2, .ref (x + 205 + 1)), (3, .ref (x + 205 + 2)), (4, .ref (x + 205 + 6)), (5, vI x2), (6, vI x3), (7, vI x28), (8, vI x29), (9, vI v52), (10, vI x31), (11, vI r32), (12, vI v38), (13, vI r40), (14, vI v43), (15, vI x55), (16, vI r51), (17, vI x87)]) (fun _ => rfl) (fun n ih593 x87 hx87 => ?_) fu 0 (inR_c _ rfl)
                    rw [g_L_same_L593]
                    refine s_iload hC dL_same_593 17 rfl ?_
                    refine s_aload_n hC dL_same_595 rfl 2 rfl ?_
                    refine s_iload hC dL_same_596 12 rfl ?_
                    refine s_iconst hC dL_same_598 ?_
                    refine s_iadd hC dL_same_599 ?_
                    refine s_iaload (b := x + 205) hC hK (fun H h => (hI H h).2) hτ (by decide) a_Tab_1 dL_same_600 (fun v88 hv88 => ?_)
                    refine s_icmp_ge (tgt := 632) hC dL_same_601 (by decide) hx87 hv88 ?_ ?_
                    · refine s_sub (L' := [(0, .ref (x + 0)), (1, .ref (x + 205 + 0)), (2, .ref (x + 205 + 1)), (3, .ref (x + 205 + 2)), (4, .ref (x + 205 + 6)), (5, vI x2), (6, vI x3), (7, vI x28), (8, vI x29), (9, vI v52), (10, vI x31), (12, vI v38), (13, vI r40), (14, vI v43), (15, vI x55), (16, vI r51)]) [0, 1, 2, 3, 4, 5, 6, 7, 8, 9, 10, 12, 13, 14, 15, 16] rfl ?_
                      exact hj56
                    · refine s_aload_n hC dL_same_604 rfl 0 rfl ?_
                      refine s_iload hC dL_same_605 10 rfl ?_
                      refine s_iload hC dL_same_607 17 rfl ?_
                      refine s_callV_P (As := [vI x31, vI x87]) (rest := []) (a := x + 0) hC hKA 2 (m_X4_letter (x := x) (y0 := x + 212) (by omega) (fun H h => (hI H h).1) hσ hB hx31 hx87) rfl (cb_of hC 2 q_c_yX4_letter q_i_X4 q_m_L_72 rfl rfl dd_yX4_letter ⟨Nat.le_of_ble_eq_true rfl, Nat.le_of_ble_eq_true rfl⟩) q_i_yX4_letter q_x_yX4_letter (s_recv hK (fun H h => (hI H h).1.x) (by decide) o_X rfl) rfl (Nat.le_of_ble_eq_true rfl) dL_same_609 ⟨Nat.le_of_ble_eq_true rfl, Nat.le_of_ble_eq_true rfl⟩ (fun r89 hr89 => ?_)
                      refine s_iload hC dL_same_612 11 rfl ?_
                      refine s_iload hC dL_same_614 17 rfl ?_
                      refine s_aload hC dL_same_616 4 rfl ?_
                      refine s_callS_P (As := [vI r32, vI x87, .ref (x + 205 + 6)]) (rest := [vI r89]) hC hKA 3 (m_L_letter (b := x + 205) (fun H h => (hI H h).2) hτ hr32 hx87) rfl (cb_of hC 3 q_c_yL_letter q_i_L q_m_L_75 rfl rfl dd_yL_letter ⟨Nat.le_of_ble_eq_true rfl, Nat.le_of_ble_eq_true rfl⟩) q_s_yL_letter rfl (Nat.le_of_ble_eq_true rfl) dL_same_618 ⟨Nat.le_of_ble_eq_true rfl, Nat.le_of_ble_eq_true rfl⟩ (fun r90 hr90 => ?_)
                      refine s_icmp_eq (tgt := 626) hC dL_same_621 (by decide) hr89 hr90 ?_ ?_
                      · refine s_iincK hC dL_same_626 17 rfl (by decide) (fun v91 => [(17, vI v91), (0, .ref (x + 0)), (1, .ref (x + 205 + 0)), (2, .ref (x + 205 + 1)), (3, .ref (x + 205 + 2)), (4, .ref (x + 205 + 6)), (5, vI x2), (6, vI x3), (7, vI x28), (8, vI x29), (9, vI v52), (10, vI x31), (11, vI r32), (12, vI v38), (13, vI r40), (14, vI v43), (15, vI x55), (16, vI r51)]) (fun _ => rfl) (fun v91 hv91 => ?_)
                        refine s_goto (tgt := 593) hC dL_same_629 (by decide) ?_
                        refine s_sub (L' := [(0, .ref (x + 0)), (1, .ref (x + 205 + 0)), (2, .ref (x + 205 + 1)), (3, .ref (x + 205 + 2)), (4, .ref (x + 205 + 6)), (5, vI x2), (6, vI x3), (7, vI x28), (8, vI x29), (9, vI v52), (10, vI x31), (11, vI r32), (12, vI v38), (13, vI r40), (14, vI v43), (15, vI x55), (16, vI r51), (17, vI v91)]) [1, 2, 3, 4, 5, 6, 7, 8, 9, 10, 11, 12, 13, 14, 15, 16, 17, 0] rfl ?_
                        exact ih593 v91 hv91
                      · refine s_sub (L' := []) [] rfl ?_
                        refine s_iconst hC dL_same_624 ?_
                        exact s_zret hC hr (Or.inl rfl) dL_same_625 (fun H hH => ⟨rfl, (inR_c _ rfl), hH⟩)
                · refine d_lp_II (F := g_L_same_L492 σ B nb τ x31 r32 r40 j54) 492 (fun x92 x93 => [(0, .ref (x + 0)), (1, .ref (x + 205 + 0)), (2, .ref (x + 205 + 1)), (3, .ref (x + 205 + 2)), (4, .ref (x + 205 + 6)), (5, vI x2), (6, vI x3), (7, vI x28), (8, vI x29), (9, vI v52), (10, vI x31), (11, vI r32), (12, vI v38), (13, vI r40), (14, vI v43), (15, vI x92), (16, vI r51), (17, vI x93)]) (fun _ _ => rfl) (fun n ih492 x92 x93 hx92 hx93 => ?_) fu v49 0 hv49 (inR_c _ rfl)
                  rw [g_L_same_L492]
                  refine s_iload hC dL_same_492 17 rfl ?_
                  refine s_iload hC dL_same_494 13 rfl ?_
                  refine s_icmp_ge (tgt := 590) hC dL_same_496 (by decide) hx93 hr40 ?_ ?_
                  · refine s_sub (L' := [(0, .ref (x + 0)), (1, .ref (x + 205 + 0)), (2, .ref (x + 205 + 1)), (3, .ref (x + 205 + 2)), (4, .ref (x + 205 + 6)), (5, vI x2), (6, vI x3), (7, vI x28), (8, vI x29), (9, vI v52), (10, vI x31), (11, vI r32), (12, vI v38), (13, vI r40), (14, vI v43), (15, vI x92), (16, vI r51)]) [0, 1, 2, 3, 4, 5, 6, 7, 8, 9, 10, 11, 12, 13, 14, 15, 16] rfl ?_
                    exact hj54 x92 hx92
                  · refine s_aload_n hC dL_same_499 rfl 3 rfl ?_
                    refine s_iconst hC dL_same_500 ?_
                    refine s_iload hC dL_same_501 11 rfl ?_
                    refine s_iload hC dL_same_503 17 rfl ?_
                    refine s_aload_n hC dL_same_505 rfl 3 rfl ?_
                    refine s_aload_n hC dL_same_506 rfl 1 rfl ?_
                    refine s_iconst hC dL_same_507 ?_
                    refine s_iaload (b := x + 205) hC hK (fun H h => (hI H h).2) hτ (by decide) a_Tab_0 dL_same_508 (fun v94 hv94 => ?_)
                    refine s_callS_P (As := [vI 2, vI r32, vI x93, .ref (x + 205 + 2), vI v94]) (rest := [.ref (x + 205 + 2)]) hC hKA 5 (m_L_find (b := x + 205) (fun H h => (hI H h).2) hτ (inR_c _ rfl) hr32 hx93 (by decide) a_Tab_2 hv94) rfl (cb_of hC 5 q_c_yL_find q_i_L q_m_L_26 rfl rfl dd_yL_find ⟨Nat.le_of_ble_eq_true rfl, Nat.le_of_ble_eq_true rfl⟩) q_s_yL_find rfl (Nat.le_of_ble_eq_true rfl) dL_same_509 ⟨Nat.le_of_ble_eq_true rfl, Nat.le_of_ble_eq_true rfl⟩ (fun r95 hr95 => ?_)
                    refine s_iaload (b := x + 205) hC hK (fun H h => (hI H h).2) hτ (by decide) a_Tab_2 dL_same_512 (fun v96 hv96 => ?_)
                    refine s_istore (L' := [(18, vI v96), (0, .ref (x + 0)), (1, .ref (x + 205 + 0)), (2, .ref (x + 205 + 1)), (3, .ref (x + 205 + 2)), (4, .ref (x + 205 + 6)), (5, vI x2), (6, vI x3), (7, vI x28), (8, vI x29), (9, vI v52), (10, vI x31), (11, vI r32), (12, vI v38), (13, vI r40), (14, vI v43), (15, vI x92), (16, vI r51), (17, vI x93)]) hC dL_same_513 (by decide) rfl ?_
                    refine s_iload hC dL_same_515 16 rfl ?_
                    refine s_iload hC dL_same_517 0 rfl ?_
                    refine s_callS_P (As := [vI v96]) (rest := [vI x92]) hC hKA 1 (m_L_cells (I := I) hv96) rfl (cb_of hC 1 q_c_yL_cells q_i_L q_m_L_10 rfl rfl dd_yL_cells ⟨Nat.le_of_ble_eq_true rfl, Nat.le_of_ble_eq_true rfl⟩) q_s_yL_cells rfl (Nat.le_of_ble_eq_true rfl) dL_same_519 ⟨Nat.le_of_ble_eq_true rfl, Nat.le_of_ble_eq_true rfl⟩ (fun r97 hr97 => ?_)
                    refine s_iadd hC dL_same_522 ?_
                    refine s_ck0 (fun v98 hv98 => ?_)
                    refine s_istore (L' := [(15, vI v98), (18, vI v96), (0, .ref (x + 0)), (1, .ref (x + 205 + 0)), (2, .ref (x + 205 + 1)), (3, .ref (x + 205 + 2)), (4, .ref (x + 205 + 6)), (5, vI x2), (6, vI x3), (7, vI x28), (8, vI x29), (9, vI v52), (10, vI x31), (11, vI r32), (12, vI v38), (13, vI r40), (14, vI v43), (16, vI r51), (17, vI x93)]) hC dL_same_523 (by decide) rfl ?_
                    refine s_aload_n hC dL_same_525 rfl 2 rfl ?_
                    refine s_iload hC dL_same_526 12 rfl ?_
                    refine s_iload hC dL_same_528 18 rfl ?_
                    refine s_iconst hC dL_same_530 ?_
                    refine s_callV_P (As := [vI x31, vI x93, vI 0]) (rest := []) (a := x + 0) hC hKA 3 (m_X4_piece (x := x) (y0 := x + 212) (by omega) (fun H h => (hI H h).1) hσ hB hx31 hx93 (inR_c _ rfl)) rfl (cb_of hC 3 q_c_yX4_piece q_i_X4 q_m_L_69 rfl rfl dd_yX4_piece ⟨Nat.le_of_ble_eq_true rfl, Nat.le_of_ble_eq_true rfl⟩) q_i_yX4_piece q_x_yX4_piece (s_recv hK (fun H h => (hI H h).1.x) (by decide) o_X rfl) rfl (Nat.le_of_ble_eq_true rfl) dL_same_531 ⟨Nat.le_of_ble_eq_true rfl, Nat.le_of_ble_eq_true rfl⟩ (fun r99 hr99 => ?_)
                    refine s_iload hC dL_same_534 1 rfl ?_
                    refine s_bipush hC dL_same_536 (by decide) ?_
                    refine s_ishr hC dL_same_538 ?_
                    refine s_bipush hC dL_same_539 (by decide) ?_
                    refine s_idiv hC dL_same_541 (i32_in _) (inR_c _ rfl) (by decide) (fun v100 hv100 => ?_)
                    refine s_icmp_ne (tgt := 582) hC dL_same_542 (by decide) hr99 hv100 ?_ ?_
                    · refine s_sub (L' := []) [] rfl ?_
                      refine s_iconst hC dL_same_582 ?_
                      exact s_zret hC hr (Or.inl rfl) dL_same_583 (fun H hH => ⟨rfl, (inR_c _ rfl), hH⟩)
                    · refine s_sub (L' := [(0, .ref (x + 0)), (1, .ref (x + 205 + 0)), (2, .ref (x + 205 + 1)), (3, .ref (x + 205 + 2)), (4, .ref (x + 205 + 6)), (5, vI x2), (6, vI x3), (7, vI x28), (8, vI x29), (9, vI v52), (10, vI x31), (11, vI r32), (12, vI v38), (13, vI r40), (14, vI v43), (15, vI v98), (16, vI r51), (17, vI x93), (18, vI v96)]) [2, 3, 4, 5, 6, 7, 8, 9, 10, 11, 12, 13, 14, 15, 16, 0, 17, 18, 1] rfl ?_
                      refine s_aload_n hC dL_same_545 rfl 0 rfl ?_
                      refine s_iload hC dL_same_546 10 rfl ?_
                      refine s_iload hC dL_same_548 17 rfl ?_
                      refine s_iconst hC dL_same_550 ?_
                      refine s_callV_P (As := [vI x31, vI x93, vI 1]) (rest := []) (a := x + 0) hC hKA 3 (m_X4_piece (x := x) (y0 := x + 212) (by omega) (fun H h => (hI H h).1) hσ hB hx31 hx93 (inR_c _ rfl)) rfl (cb_of hC 3 q_c_yX4_piece q_i_X4 q_m_L_69 rfl rfl dd_yX4_piece ⟨Nat.le_of_ble_eq_true rfl, Nat.le_of_ble_eq_true rfl⟩) q_i_yX4_piece q_x_yX4_piece (s_recv hK (fun H h => (hI H h).1.x) (by decide) o_X rfl) rfl (Nat.le_of_ble_eq_true rfl) dL_same_551 ⟨Nat.le_of_ble_eq_true rfl, Nat.le_of_ble_eq_true rfl⟩ (fun r101 hr101 => ?_)
                      refine s_iload hC dL_same_554 18 rfl ?_
                      refine s_bipush hC dL_same_556 (by decide) ?_
                      refine s_ishr hC dL_same_558 ?_
                      refine s_bipush hC dL_same_559 (by decide) ?_
                      refine s_irem hC dL_same_561 (i32_in _) (inR_c _ rfl) (by decide) (fun v102 hv102 => ?_)
                      refine s_icmp_ne (tgt := 582) hC dL_same_562 (by decide) hr101 hv102 ?_ ?_
                      · refine s_sub (L' := []) [] rfl ?_
                        refine s_iconst hC dL_same_582 ?_
                        exact s_zret hC hr (Or.inl rfl) dL_same_583 (fun H hH => ⟨rfl, (inR_c _ rfl), hH⟩)
                      · refine s_aload_n hC dL_same_565 rfl 0 rfl ?_
                        refine s_iload hC dL_same_566 10 rfl ?_
                        refine s_iload hC dL_same_568 17 rfl ?_
                        refine s_iconst hC dL_same_570 ?_
                        refine s_callV_P (As := [vI x31, vI x93, vI 2]) (rest := []) (a := x + 0) hC hKA 3 (m_X4_piece (x := x) (y0 := x + 212) (by omega) (fun H h => (hI H h).1) hσ hB hx31 hx93 (inR_c _ rfl)) rfl (cb_of hC 3 q_c_yX4_piece q_i_X4 q_m_L_69 rfl rfl dd_yX4_piece ⟨Nat.le_of_ble_eq_true rfl, Nat.le_of_ble_eq_true rfl⟩) q_i_yX4_piece q_x_yX4_piece (s_recv hK (fun H h => (hI H h).1.x) (by decide) o_X rfl) rfl (Nat.le_of_ble_eq_true rfl) dL_same_571 ⟨Nat.le_of_ble_eq_true rfl, Nat.le_of_ble_eq_true rfl⟩ (fun r103 hr103 => ?_)
                        refine s_iload hC dL_same_574 18 rfl ?_
                        refine s_bipush hC dL_same_576 (by decide) ?_
                        refine s_iand hC dL_same_578 ?_
                        refine s_icmp_eq (tgt := 584) hC dL_same_579 (by decide) hr103 (i32_in _) ?_ ?_
                        · refine s_sub (L' := [(0, .ref (x + 0)), (1, .ref (x + 205 + 0)), (2, .ref (x + 205 + 1)), (3, .ref (x + 205 + 2)), (4, .ref (x + 205 + 6)), (5, vI x2), (6, vI x3), (7, vI x28), (8, vI x29), (9, vI v52), (10, vI x31), (11, vI r32), (12, vI v38), (13, vI r40), (14, vI v43), (15, vI v98), (16, vI r51), (17, vI x93)]) [0, 1, 2, 3, 4, 5, 6, 7, 8, 9, 10, 11, 12, 13, 14, 15, 16, 17] rfl ?_
                          refine s_iincK hC dL_same_584 17 rfl (by decide) (fun v104 => [(17, vI v104), (0, .ref (x + 0)), (1, .ref (x + 205 + 0)), (2, .ref (x + 205 + 1)), (3, .ref (x + 205 + 2)), (4, .ref (x + 205 + 6)), (5, vI x2), (6, vI x3), (7, vI x28), (8, vI x29), (9, vI v52), (10, vI x31), (11, vI r32), (12, vI v38), (13, vI r40), (14, vI v43), (15, vI v98), (16, vI r51)]) (fun _ => rfl) (fun v104 hv104 => ?_)
                          refine s_goto (tgt := 492) hC dL_same_587 (by decide) ?_
                          refine s_sub (L' := [(0, .ref (x + 0)), (1, .ref (x + 205 + 0)), (2, .ref (x + 205 + 1)), (3, .ref (x + 205 + 2)), (4, .ref (x + 205 + 6)), (5, vI x2), (6, vI x3), (7, vI x28), (8, vI x29), (9, vI v52), (10, vI x31), (11, vI r32), (12, vI v38), (13, vI r40), (14, vI v43), (15, vI v98), (16, vI r51), (17, vI v104)]) [1, 2, 3, 4, 5, 6, 7, 8, 9, 10, 11, 12, 13, 14, 15, 16, 17, 0] rfl ?_
                          exact ih492 v98 v104 hv98 hv104
                        · refine s_sub (L' := []) [] rfl ?_
                          refine s_iconst hC dL_same_582 ?_
                          exact s_zret hC hr (Or.inl rfl) dL_same_583 (fun H hH => ⟨rfl, (inR_c _ rfl), hH⟩)
              · refine s_sub (L' := []) [] rfl ?_
                refine s_iconst hC dL_same_487 ?_
                exact s_zret hC hr (Or.inl rfl) dL_same_488 (fun H hH => ⟨rfl, (inR_c _ rfl), hH⟩)
            · refine s_icmp_eq (tgt := 457) hC dL_same_450 (by decide) hv45 hv46 ?_ ?_
              · refine s_sub (L' := [(0, .ref (x + 0)), (1, .ref (x + 205 + 0)), (2, .ref (x + 205 + 1)), (3, .ref (x + 205 + 2)), (4, .ref (x + 205 + 6)), (5, vI x2), (6, vI x3), (7, vI x28), (8, vI x29), (9, vI x30), (10, vI x31), (11, vI r32), (12, vI v38), (13, vI r40), (14, vI v43)]) [3, 4, 5, 6, 7, 8, 9, 10, 11, 12, 13, 14, 2, 1, 0] rfl ?_
                refine s_iconst hC dL_same_457 ?_
                exact hj47 0 (inR_c _ rfl)
              · refine s_sub (L' := [(0, .ref (x + 0)), (1, .ref (x + 205 + 0)), (2, .ref (x + 205 + 1)), (3, .ref (x + 205 + 2)), (4, .ref (x + 205 + 6)), (5, vI x2), (6, vI x3), (7, vI x28), (8, vI x29), (9, vI x30), (10, vI x31), (11, vI r32), (12, vI v38), (13, vI r40), (14, vI v43)]) [3, 4, 5, 6, 7, 8, 9, 10, 11, 12, 13, 14, 2, 1, 0] rfl ?_
                refine s_iconst hC dL_same_453 ?_
                refine s_goto (tgt := 458) hC dL_same_454 (by decide) ?_
                exact hj47 1 (inR_c _ rfl)
          · refine s_sub (L' := [(0, .ref (x + 0)), (1, .ref (x + 205 + 0)), (2, .ref (x + 205 + 1)), (3, .ref (x + 205 + 2)), (4, .ref (x + 205 + 6)), (5, vI x2), (6, vI x3), (7, vI x28), (8, vI x29), (9, vI x30), (10, vI x31)]) [1, 2, 3, 4, 5, 6, 7, 8, 9, 10, 11] rfl ?_
            refine s_aload_n hC dL_same_388 rfl 0 rfl ?_
            refine s_iload hC dL_same_389 10 rfl ?_
            refine s_iconst hC dL_same_391 ?_
            refine s_callV_P (As := [vI x31, vI 0]) (rest := []) (a := x + 0) hC hKA 2 (m_X4_row (x := x) (y0 := x + 212) (by omega) (fun H h => (hI H h).1) hσ hB hx31 (inR_c _ rfl)) rfl (cb_of hC 2 q_c_yX4_row q_i_X4 q_m_L_63 rfl rfl dd_yX4_row ⟨Nat.le_of_ble_eq_true rfl, Nat.le_of_ble_eq_true rfl⟩) q_i_yX4_row q_x_yX4_row (s_recv hK (fun H h => (hI H h).1.x) (by decide) o_X rfl) rfl (Nat.le_of_ble_eq_true rfl) dL_same_392 ⟨Nat.le_of_ble_eq_true rfl, Nat.le_of_ble_eq_true rfl⟩ (fun r105 hr105 => ?_)
            refine s_iconst hC dL_same_395 ?_
            refine s_icmp_eq (tgt := 867) hC dL_same_396 (by decide) hr105 (inR_c _ rfl) ?_ ?_
            · exact hj33 x28 x29 x30 hx28 hx29 hx30
            · refine s_sub (L' := []) [] rfl ?_
              refine s_iconst hC dL_same_399 ?_
              exact s_zret hC hr (Or.inl rfl) dL_same_400 (fun H hH => ⟨rfl, (inR_c _ rfl), hH⟩)
  · refine d_lp_III (F := g_L_same_L19 σ B nb τ j1) 19 (fun x106 x107 x108 => [(0, .ref (x + 0)), (1, .ref (x + 205 + 0)), (2, .ref (x + 205 + 1)), (3, .ref (x + 205 + 2)), (4, .ref (x + 205 + 6)), (5, vI x106), (6, vI x107), (7, vI 0), (8, vI ((-6))), (9, vI 0), (10, vI x108)]) (fun _ _ _ => rfl) (fun n ih19 x106 x107 x108 hx106 hx107 hx108 => ?_) fu 0 0 0 (inR_c _ rfl) (inR_c _ rfl) (inR_c _ rfl)
    rw [g_L_same_L19]
    refine s_iload hC dL_same_19 10 rfl ?_
    refine s_bipush hC dL_same_21 (by decide) ?_
    refine s_icmp_ge (tgt := 365) hC dL_same_23 (by decide) hx108 (inR_c _ rfl) ?_ ?_
    · refine s_sub (L' := [(0, .ref (x + 0)), (1, .ref (x + 205 + 0)), (2, .ref (x + 205 + 1)), (3, .ref (x + 205 + 2)), (4, .ref (x + 205 + 6)), (5, vI x106), (6, vI x107), (7, vI 0), (8, vI ((-6))), (9, vI 0)]) [0, 1, 2, 3, 4, 5, 6, 7, 8, 9] rfl ?_
      exact hj1 x106 x107 hx106 hx107
    · refine s_iconst hC dL_same_26 ?_
      refine s_istore (L' := [(11, vI 0), (0, .ref (x + 0)), (1, .ref (x + 205 + 0)), (2, .ref (x + 205 + 1)), (3, .ref (x + 205 + 2)), (4, .ref (x + 205 + 6)), (5, vI x106), (6, vI x107), (7, vI 0), (8, vI ((-6))), (9, vI 0), (10, vI x108)]) hC dL_same_27 (by decide) rfl ?_
      refine s_iconst hC dL_same_29 ?_
      refine s_istore (L' := [(12, vI 0), (11, vI 0), (0, .ref (x + 0)), (1, .ref (x + 205 + 0)), (2, .ref (x + 205 + 1)), (3, .ref (x + 205 + 2)), (4, .ref (x + 205 + 6)), (5, vI x106), (6, vI x107), (7, vI 0), (8, vI ((-6))), (9, vI 0), (10, vI x108)]) hC dL_same_30 (by decide) rfl ?_
      refine s_iconst hC dL_same_32 ?_
      refine s_istore (L' := [(13, vI 0), (12, vI 0), (11, vI 0), (0, .ref (x + 0)), (1, .ref (x + 205 + 0)), (2, .ref (x + 205 + 1)), (3, .ref (x + 205 + 2)), (4, .ref (x + 205 + 6)), (5, vI x106), (6, vI x107), (7, vI 0), (8, vI ((-6))), (9, vI 0), (10, vI x108)]) hC dL_same_33 (by decide) rfl ?_
      refine s_iconst hC dL_same_35 ?_
      refine s_istore (L' := [(14, vI 0), (13, vI 0), (12, vI 0), (11, vI 0), (0, .ref (x + 0)), (1, .ref (x + 205 + 0)), (2, .ref (x + 205 + 1)), (3, .ref (x + 205 + 2)), (4, .ref (x + 205 + 6)), (5, vI x106), (6, vI x107), (7, vI 0), (8, vI ((-6))), (9, vI 0), (10, vI x108)]) hC dL_same_36 (by decide) rfl ?_
      refine s_iconst hC dL_same_38 ?_
      refine s_istore (L' := [(15, vI 0), (14, vI 0), (13, vI 0), (12, vI 0), (11, vI 0), (0, .ref (x + 0)), (1, .ref (x + 205 + 0)), (2, .ref (x + 205 + 1)), (3, .ref (x + 205 + 2)), (4, .ref (x + 205 + 6)), (5, vI x106), (6, vI x107), (7, vI 0), (8, vI ((-6))), (9, vI 0), (10, vI x108)]) hC dL_same_39 (by decide) rfl ?_
      refine s_sub (L' := [(0, .ref (x + 0)), (1, .ref (x + 205 + 0)), (2, .ref (x + 205 + 1)), (3, .ref (x + 205 + 2)), (4, .ref (x + 205 + 6)), (5, vI x106), (6, vI x107), (7, vI 0), (8, vI ((-6))), (9, vI 0), (10, vI x108), (11, vI 0), (12, vI 0), (13, vI 0), (14, vI 0), (15, vI 0)]) [5, 6, 7, 8, 9, 10, 11, 12, 13, 14, 15, 4, 3, 2, 1, 0] rfl ?_
      refine d_jp_IIII (0) (0) 230 (fun x110 x111 x112 x113 => [(0, .ref (x + 0)), (1, .ref (x + 205 + 0)), (2, .ref (x + 205 + 1)), (3, .ref (x + 205 + 2)), (4, .ref (x + 205 + 6)), (5, vI x106), (6, vI x107), (7, vI 0), (8, vI ((-6))), (9, vI 0), (10, vI x108), (11, vI x110), (12, vI x111), (13, vI x112), (14, vI x113)]) (fun x110 x111 x112 x113 => []) (fun x110 x111 x112 x113 hx110 hx111 hx112 hx113 => ?_) (fun j109 hj109 => ?_)
      · refine s_iload hC dL_same_230 10 rfl ?_
        refine s_aload_n hC dL_same_232 rfl 3 rfl ?_
        refine s_aload_n hC dL_same_233 rfl 1 rfl ?_
        refine s_iconst hC dL_same_234 ?_
        refine s_iaload (b := x + 205) hC hK (fun H h => (hI H h).2) hτ (by decide) a_Tab_0 dL_same_235 (fun v114 hv114 => ?_)
        refine s_callS_P (As := [vI x108, .ref (x + 205 + 2), vI v114]) (rest := []) hC hKA 3 (m_L_free (b := x + 205) (fun H h => (hI H h).2) hτ hx108 (by decide) a_Tab_2 hv114) rfl (cb_of hC 3 q_c_yL_free q_i_L q_m_L_16 rfl rfl dd_yL_free ⟨Nat.le_of_ble_eq_true rfl, Nat.le_of_ble_eq_true rfl⟩) q_s_yL_free rfl (Nat.le_of_ble_eq_true rfl) dL_same_236 ⟨Nat.le_of_ble_eq_true rfl, Nat.le_of_ble_eq_true rfl⟩ (fun r115 hr115 => ?_)
        refine s_istore (L' := [(15, vI r115), (0, .ref (x + 0)), (1, .ref (x + 205 + 0)), (2, .ref (x + 205 + 1)), (3, .ref (x + 205 + 2)), (4, .ref (x + 205 + 6)), (5, vI x106), (6, vI x107), (7, vI 0), (8, vI ((-6))), (9, vI 0), (10, vI x108), (11, vI x110), (12, vI x111), (13, vI x112), (14, vI x113)]) hC dL_same_239 (by decide) rfl ?_
        refine s_iload hC dL_same_241 6 rfl ?_
        refine s_iload hC dL_same_243 12 rfl ?_
        refine d_jp_I (0) (0) 253 (fun x117 => [(0, .ref (x + 0)), (1, .ref (x + 205 + 0)), (2, .ref (x + 205 + 1)), (3, .ref (x + 205 + 2)), (4, .ref (x + 205 + 6)), (6, vI x107), (7, vI 0), (8, vI ((-6))), (9, vI 0), (10, vI x108), (11, vI x110), (12, vI x111), (13, vI x112), (14, vI x113), (15, vI r115)]) (fun x117 => [vI x117, vI x106]) (fun x117 hx117 => ?_) (fun j116 hj116 => ?_)
        · refine s_iadd hC dL_same_253 ?_
          refine s_ck0 (fun v118 hv118 => ?_)
          refine s_istore (L' := [(5, vI v118), (0, .ref (x + 0)), (1, .ref (x + 205 + 0)), (2, .ref (x + 205 + 1)), (3, .ref (x + 205 + 2)), (4, .ref (x + 205 + 6)), (6, vI x107), (7, vI 0), (8, vI ((-6))), (9, vI 0), (10, vI x108), (11, vI x110), (12, vI x111), (13, vI x112), (14, vI x113), (15, vI r115)]) hC dL_same_254 (by decide) rfl ?_
          refine s_iload hC dL_same_256 6 rfl ?_
          refine s_iload hC dL_same_258 15 rfl ?_
          refine s_iadd hC dL_same_260 ?_
          refine s_ck0 (fun v119 hv119 => ?_)
          refine s_istore (L' := [(6, vI v119), (5, vI v118), (0, .ref (x + 0)), (1, .ref (x + 205 + 0)), (2, .ref (x + 205 + 1)), (3, .ref (x + 205 + 2)), (4, .ref (x + 205 + 6)), (7, vI 0), (8, vI ((-6))), (9, vI 0), (10, vI x108), (11, vI x110), (12, vI x111), (13, vI x112), (14, vI x113), (15, vI r115)]) hC dL_same_261 (by decide) rfl ?_
          refine s_aload_n hC dL_same_263 rfl 2 rfl ?_
          refine s_iload hC dL_same_264 10 rfl ?_
          refine s_iconst hC dL_same_266 ?_
          refine s_callV_P (As := [vI x108, vI 0]) (rest := []) (a := x + 0) hC hKA 2 (m_X4_page (x := x) (y0 := x + 212) (by omega) (fun H h => (hI H h).1) hσ hB hx108 (inR_c _ rfl)) rfl (cb_of hC 2 q_c_yX4_page q_i_X4 q_m_L_59 rfl rfl dd_yX4_page ⟨Nat.le_of_ble_eq_true rfl, Nat.le_of_ble_eq_true rfl⟩) q_i_yX4_page q_x_yX4_page (s_recv hK (fun H h => (hI H h).1.x) (by decide) o_X rfl) rfl (Nat.le_of_ble_eq_true rfl) dL_same_267 ⟨Nat.le_of_ble_eq_true rfl, Nat.le_of_ble_eq_true rfl⟩ (fun r120 hr120 => ?_)
          refine s_iload hC dL_same_270 15 rfl ?_
          refine s_icmp_ne (tgt := 357) hC dL_same_272 (by decide) hr120 hr115 ?_ ?_
          · refine s_sub (L' := []) [] rfl ?_
            refine s_iconst hC dL_same_357 ?_
            exact s_zret hC hr (Or.inl rfl) dL_same_358 (fun H hH => ⟨rfl, (inR_c _ rfl), hH⟩)
          · refine s_sub (L' := [(0, .ref (x + 0)), (1, .ref (x + 205 + 0)), (2, .ref (x + 205 + 1)), (3, .ref (x + 205 + 2)), (4, .ref (x + 205 + 6)), (5, vI v118), (6, vI v119), (7, vI 0), (8, vI ((-6))), (9, vI 0), (10, vI x108), (11, vI x110), (12, vI x111), (13, vI x112), (14, vI x113)]) [2, 3, 4, 5, 6, 1, 0, 7, 8, 9, 10, 11, 12, 13, 14] rfl ?_
            refine s_aload_n hC dL_same_275 rfl 0 rfl ?_
            refine s_iload hC dL_same_276 10 rfl ?_
            refine s_iconst hC dL_same_278 ?_
            refine s_callV_P (As := [vI x108, vI 1]) (rest := []) (a := x + 0) hC hKA 2 (m_X4_page (x := x) (y0 := x + 212) (by omega) (fun H h => (hI H h).1) hσ hB hx108 (inR_c _ rfl)) rfl (cb_of hC 2 q_c_yX4_page q_i_X4 q_m_L_59 rfl rfl dd_yX4_page ⟨Nat.le_of_ble_eq_true rfl, Nat.le_of_ble_eq_true rfl⟩) q_i_yX4_page q_x_yX4_page (s_recv hK (fun H h => (hI H h).1.x) (by decide) o_X rfl) rfl (Nat.le_of_ble_eq_true rfl) dL_same_279 ⟨Nat.le_of_ble_eq_true rfl, Nat.le_of_ble_eq_true rfl⟩ (fun r121 hr121 => ?_)
            refine s_iload hC dL_same_282 11 rfl ?_
            refine s_icmp_ne (tgt := 357) hC dL_same_284 (by decide) hr121 hx110 ?_ ?_
            · refine s_sub (L' := []) [] rfl ?_
              refine s_iconst hC dL_same_357 ?_
              exact s_zret hC hr (Or.inl rfl) dL_same_358 (fun H hH => ⟨rfl, (inR_c _ rfl), hH⟩)
            · refine s_aload_n hC dL_same_287 rfl 0 rfl ?_
              refine s_iload hC dL_same_288 10 rfl ?_
              refine s_iconst hC dL_same_290 ?_
              refine s_callV_P (As := [vI x108, vI 2]) (rest := []) (a := x + 0) hC hKA 2 (m_X4_page (x := x) (y0 := x + 212) (by omega) (fun H h => (hI H h).1) hσ hB hx108 (inR_c _ rfl)) rfl (cb_of hC 2 q_c_yX4_page q_i_X4 q_m_L_59 rfl rfl dd_yX4_page ⟨Nat.le_of_ble_eq_true rfl, Nat.le_of_ble_eq_true rfl⟩) q_i_yX4_page q_x_yX4_page (s_recv hK (fun H h => (hI H h).1.x) (by decide) o_X rfl) rfl (Nat.le_of_ble_eq_true rfl) dL_same_291 ⟨Nat.le_of_ble_eq_true rfl, Nat.le_of_ble_eq_true rfl⟩ (fun r122 hr122 => ?_)
              refine s_iload hC dL_same_294 12 rfl ?_
              refine s_icmp_ne (tgt := 357) hC dL_same_296 (by decide) hr122 hx111 ?_ ?_
              · refine s_sub (L' := []) [] rfl ?_
                refine s_iconst hC dL_same_357 ?_
                exact s_zret hC hr (Or.inl rfl) dL_same_358 (fun H hH => ⟨rfl, (inR_c _ rfl), hH⟩)
              · refine s_aload_n hC dL_same_299 rfl 0 rfl ?_
                refine s_iload hC dL_same_300 10 rfl ?_
                refine s_iconst hC dL_same_302 ?_
                refine s_callV_P (As := [vI x108, vI 3]) (rest := []) (a := x + 0) hC hKA 2 (m_X4_page (x := x) (y0 := x + 212) (by omega) (fun H h => (hI H h).1) hσ hB hx108 (inR_c _ rfl)) rfl (cb_of hC 2 q_c_yX4_page q_i_X4 q_m_L_59 rfl rfl dd_yX4_page ⟨Nat.le_of_ble_eq_true rfl, Nat.le_of_ble_eq_true rfl⟩) q_i_yX4_page q_x_yX4_page (s_recv hK (fun H h => (hI H h).1.x) (by decide) o_X rfl) rfl (Nat.le_of_ble_eq_true rfl) dL_same_303 ⟨Nat.le_of_ble_eq_true rfl, Nat.le_of_ble_eq_true rfl⟩ (fun r123 hr123 => ?_)
                refine s_iload hC dL_same_306 13 rfl ?_
                refine s_icmp_ne (tgt := 357) hC dL_same_308 (by decide) hr123 hx112 ?_ ?_
                · refine s_sub (L' := []) [] rfl ?_
                  refine s_iconst hC dL_same_357 ?_
                  exact s_zret hC hr (Or.inl rfl) dL_same_358 (fun H hH => ⟨rfl, (inR_c _ rfl), hH⟩)
                · refine s_aload_n hC dL_same_311 rfl 0 rfl ?_
                  refine s_iload hC dL_same_312 10 rfl ?_
                  refine s_iconst hC dL_same_314 ?_
                  refine s_callV_P (As := [vI x108, vI 4]) (rest := []) (a := x + 0) hC hKA 2 (m_X4_page (x := x) (y0 := x + 212) (by omega) (fun H h => (hI H h).1) hσ hB hx108 (inR_c _ rfl)) rfl (cb_of hC 2 q_c_yX4_page q_i_X4 q_m_L_59 rfl rfl dd_yX4_page ⟨Nat.le_of_ble_eq_true rfl, Nat.le_of_ble_eq_true rfl⟩) q_i_yX4_page q_x_yX4_page (s_recv hK (fun H h => (hI H h).1.x) (by decide) o_X rfl) rfl (Nat.le_of_ble_eq_true rfl) dL_same_315 ⟨Nat.le_of_ble_eq_true rfl, Nat.le_of_ble_eq_true rfl⟩ (fun r124 hr124 => ?_)
                  refine s_iload hC dL_same_318 14 rfl ?_
                  refine s_icmp_ne (tgt := 357) hC dL_same_320 (by decide) hr124 hx113 ?_ ?_
                  · refine s_sub (L' := []) [] rfl ?_
                    refine s_iconst hC dL_same_357 ?_
                    exact s_zret hC hr (Or.inl rfl) dL_same_358 (fun H hH => ⟨rfl, (inR_c _ rfl), hH⟩)
                  · refine s_aload_n hC dL_same_323 rfl 0 rfl ?_
                    refine s_iload hC dL_same_324 10 rfl ?_
                    refine s_iconst hC dL_same_326 ?_
                    refine s_callV_P (As := [vI x108, vI 5]) (rest := []) (a := x + 0) hC hKA 2 (m_X4_page (x := x) (y0 := x + 212) (by omega) (fun H h => (hI H h).1) hσ hB hx108 (inR_c _ rfl)) rfl (cb_of hC 2 q_c_yX4_page q_i_X4 q_m_L_59 rfl rfl dd_yX4_page ⟨Nat.le_of_ble_eq_true rfl, Nat.le_of_ble_eq_true rfl⟩) q_i_yX4_page q_x_yX4_page (s_recv hK (fun H h => (hI H h).1.x) (by decide) o_X rfl) rfl (Nat.le_of_ble_eq_true rfl) dL_same_327 ⟨Nat.le_of_ble_eq_true rfl, Nat.le_of_ble_eq_true rfl⟩ (fun r125 hr125 => ?_)
                    refine s_iload hC dL_same_330 11 rfl ?_
                    refine s_iload hC dL_same_332 12 rfl ?_
                    refine s_isub hC dL_same_334 ?_
                    refine s_iload hC dL_same_335 13 rfl ?_
                    refine s_isub hC dL_same_337 ?_
                    refine s_iload hC dL_same_338 14 rfl ?_
                    refine s_isub hC dL_same_340 ?_
                    refine s_ck0 (fun v126 hv126 => ?_)
                    refine s_icmp_ne (tgt := 357) hC dL_same_341 (by decide) hr125 hv126 ?_ ?_
                    · refine s_sub (L' := []) [] rfl ?_
                      refine s_iconst hC dL_same_357 ?_
                      exact s_zret hC hr (Or.inl rfl) dL_same_358 (fun H hH => ⟨rfl, (inR_c _ rfl), hH⟩)
                    · refine s_sub (L' := [(0, .ref (x + 0)), (1, .ref (x + 205 + 0)), (2, .ref (x + 205 + 1)), (3, .ref (x + 205 + 2)), (4, .ref (x + 205 + 6)), (5, vI v118), (6, vI v119), (7, vI 0), (8, vI ((-6))), (9, vI 0), (10, vI x108), (11, vI x110)]) [0, 1, 2, 3, 4, 5, 6, 7, 8, 9, 10, 11] rfl ?_
                      refine s_aload_n hC dL_same_344 rfl 0 rfl ?_
                      refine s_iload hC dL_same_345 10 rfl ?_
                      refine s_iload hC dL_same_347 11 rfl ?_
                      refine s_iconst hC dL_same_349 ?_
                      refine s_callV_P (As := [vI x108, vI x110, vI 0]) (rest := []) (a := x + 0) hC hKA 3 (m_X4_slot (x := x) (y0 := x + 212) (by omega) (fun H h => (hI H h).1) hσ hB hx108 hx110 (inR_c _ rfl)) rfl (cb_of hC 3 q_c_yX4_slot q_i_X4 q_m_L_53 rfl rfl dd_yX4_slot ⟨Nat.le_of_ble_eq_true rfl, Nat.le_of_ble_eq_true rfl⟩) q_i_yX4_slot q_x_yX4_slot (s_recv hK (fun H h => (hI H h).1.x) (by decide) o_X rfl) rfl (Nat.le_of_ble_eq_true rfl) dL_same_350 ⟨Nat.le_of_ble_eq_true rfl, Nat.le_of_ble_eq_true rfl⟩ (fun r127 hr127 => ?_)
                      refine s_iconst hC dL_same_353 ?_
                      refine s_icmp_eq (tgt := 359) hC dL_same_354 (by decide) hr127 (inR_c _ rfl) ?_ ?_
                      · refine s_sub (L' := [(0, .ref (x + 0)), (1, .ref (x + 205 + 0)), (2, .ref (x + 205 + 1)), (3, .ref (x + 205 + 2)), (4, .ref (x + 205 + 6)), (5, vI v118), (6, vI v119), (7, vI 0), (8, vI ((-6))), (9, vI 0), (10, vI x108)]) [0, 1, 2, 3, 4, 5, 6, 7, 8, 9, 10] rfl ?_
                        refine s_iincK hC dL_same_359 10 rfl (by decide) (fun v128 => [(10, vI v128), (0, .ref (x + 0)), (1, .ref (x + 205 + 0)), (2, .ref (x + 205 + 1)), (3, .ref (x + 205 + 2)), (4, .ref (x + 205 + 6)), (5, vI v118), (6, vI v119), (7, vI 0), (8, vI ((-6))), (9, vI 0)]) (fun _ => rfl) (fun v128 hv128 => ?_)
                        refine s_goto (tgt := 19) hC dL_same_362 (by decide) ?_
                        refine s_sub (L' := [(0, .ref (x + 0)), (1, .ref (x + 205 + 0)), (2, .ref (x + 205 + 1)), (3, .ref (x + 205 + 2)), (4, .ref (x + 205 + 6)), (5, vI v118), (6, vI v119), (7, vI 0), (8, vI ((-6))), (9, vI 0), (10, vI v128)]) [1, 2, 3, 4, 5, 6, 7, 8, 9, 10, 0] rfl ?_
                        exact ih19 v118 v119 v128 hv118 hv119 hv128
                      · refine s_sub (L' := []) [] rfl ?_
                        refine s_iconst hC dL_same_357 ?_
                        exact s_zret hC hr (Or.inl rfl) dL_same_358 (fun H hH => ⟨rfl, (inR_c _ rfl), hH⟩)
        · refine s_if_le (tgt := 252) hC dL_same_245 (by decide) hx110 ?_ ?_
          · refine s_sub (L' := [(0, .ref (x + 0)), (1, .ref (x + 205 + 0)), (2, .ref (x + 205 + 1)), (3, .ref (x + 205 + 2)), (4, .ref (x + 205 + 6)), (6, vI x107), (7, vI 0), (8, vI ((-6))), (9, vI 0), (10, vI x108), (11, vI x110), (12, vI x111), (13, vI x112), (14, vI x113), (15, vI r115)]) [1, 2, 3, 4, 5, 7, 8, 9, 10, 11, 12, 13, 14, 15, 0] rfl ?_
            refine s_iconst hC dL_same_252 ?_
            exact hj116 0 (inR_c _ rfl)
          · refine s_sub (L' := [(0, .ref (x + 0)), (1, .ref (x + 205 + 0)), (2, .ref (x + 205 + 1)), (3, .ref (x + 205 + 2)), (4, .ref (x + 205 + 6)), (6, vI x107), (7, vI 0), (8, vI ((-6))), (9, vI 0), (10, vI x108), (11, vI x110), (12, vI x111), (13, vI x112), (14, vI x113), (15, vI r115)]) [1, 2, 3, 4, 5, 7, 8, 9, 10, 11, 12, 13, 14, 15, 0] rfl ?_
            refine s_iconst hC dL_same_248 ?_
            refine s_goto (tgt := 253) hC dL_same_249 (by decide) ?_
            exact hj116 1 (inR_c _ rfl)
      · refine d_lp_IIIII (F := g_L_same_L41 σ B nb τ x108 j109) 41 (fun x129 x130 x131 x132 x133 => [(0, .ref (x + 0)), (1, .ref (x + 205 + 0)), (2, .ref (x + 205 + 1)), (3, .ref (x + 205 + 2)), (4, .ref (x + 205 + 6)), (5, vI x106), (6, vI x107), (7, vI 0), (8, vI ((-6))), (9, vI 0), (10, vI x108), (11, vI x129), (12, vI x130), (13, vI x131), (14, vI x132), (15, vI x133)]) (fun _ _ _ _ _ => rfl) (fun n ih41 x129 x130 x131 x132 x133 hx129 hx130 hx131 hx132 hx133 => ?_) fu 0 0 0 0 0 (inR_c _ rfl) (inR_c _ rfl) (inR_c _ rfl) (inR_c _ rfl) (inR_c _ rfl)
        rw [g_L_same_L41]
        refine s_iload hC dL_same_41 15 rfl ?_
        refine s_aload_n hC dL_same_43 rfl 1 rfl ?_
        refine s_iconst hC dL_same_44 ?_
        refine s_iaload (b := x + 205) hC hK (fun H h => (hI H h).2) hτ (by decide) a_Tab_0 dL_same_45 (fun v134 hv134 => ?_)
        refine s_icmp_ge (tgt := 230) hC dL_same_46 (by decide) hx133 hv134 ?_ ?_
        · refine s_sub (L' := [(0, .ref (x + 0)), (1, .ref (x + 205 + 0)), (2, .ref (x + 205 + 1)), (3, .ref (x + 205 + 2)), (4, .ref (x + 205 + 6)), (5, vI x106), (6, vI x107), (7, vI 0), (8, vI ((-6))), (9, vI 0), (10, vI x108), (11, vI x129), (12, vI x130), (13, vI x131), (14, vI x132)]) [0, 1, 2, 3, 4, 5, 6, 7, 8, 9, 10, 11, 12, 13, 14] rfl ?_
          exact hj109 x129 x130 x131 x132 hx129 hx130 hx131 hx132
        · refine s_aload_n hC dL_same_49 rfl 3 rfl ?_
          refine s_iload hC dL_same_50 15 rfl ?_
          refine s_iaload (b := x + 205) hC hK (fun H h => (hI H h).2) hτ (by decide) a_Tab_2 dL_same_52 (fun v135 hv135 => ?_)
          refine s_bipush hC dL_same_53 (by decide) ?_
          refine s_ishr hC dL_same_55 ?_
          refine s_nm ((i32_in _)) (fun v136 hv136 => ?_)
          refine s_istore (L' := [(16, vI v136), (0, .ref (x + 0)), (1, .ref (x + 205 + 0)), (2, .ref (x + 205 + 1)), (3, .ref (x + 205 + 2)), (4, .ref (x + 205 + 6)), (5, vI x106), (6, vI x107), (7, vI 0), (8, vI ((-6))), (9, vI 0), (10, vI x108), (11, vI x129), (12, vI x130), (13, vI x131), (14, vI x132), (15, vI x133)]) hC dL_same_56 (by decide) rfl ?_
          refine s_iload hC dL_same_58 0 rfl ?_
          refine s_bipush hC dL_same_60 (by decide) ?_
          refine s_idiv hC dL_same_62 hv136 (inR_c _ rfl) (by decide) (fun v137 hv137 => ?_)
          refine s_iload hC dL_same_63 11 rfl ?_
          refine d_jp_IIII (0) (0) 224 (fun x139 x140 x141 x142 => [(0, .ref (x + 0)), (1, .ref (x + 205 + 0)), (2, .ref (x + 205 + 1)), (3, .ref (x + 205 + 2)), (4, .ref (x + 205 + 6)), (5, vI x106), (6, vI x107), (7, vI 0), (8, vI ((-6))), (9, vI 0), (10, vI x108), (11, vI x139), (12, vI x140), (13, vI x141), (14, vI x142), (15, vI x133)]) (fun x139 x140 x141 x142 => []) (fun x139 x140 x141 x142 hx139 hx140 hx141 hx142 => ?_) (fun j138 hj138 => ?_)
          · refine s_iincK hC dL_same_224 15 rfl (by decide) (fun v143 => [(15, vI v143), (0, .ref (x + 0)), (1, .ref (x + 205 + 0)), (2, .ref (x + 205 + 1)), (3, .ref (x + 205 + 2)), (4, .ref (x + 205 + 6)), (5, vI x106), (6, vI x107), (7, vI 0), (8, vI ((-6))), (9, vI 0), (10, vI x108), (11, vI x139), (12, vI x140), (13, vI x141), (14, vI x142)]) (fun _ => rfl) (fun v143 hv143 => ?_)
            refine s_goto (tgt := 41) hC dL_same_227 (by decide) ?_
            refine s_sub (L' := [(0, .ref (x + 0)), (1, .ref (x + 205 + 0)), (2, .ref (x + 205 + 1)), (3, .ref (x + 205 + 2)), (4, .ref (x + 205 + 6)), (5, vI x106), (6, vI x107), (7, vI 0), (8, vI ((-6))), (9, vI 0), (10, vI x108), (11, vI x139), (12, vI x140), (13, vI x141), (14, vI x142), (15, vI v143)]) [1, 2, 3, 4, 5, 6, 7, 8, 9, 10, 11, 12, 13, 14, 15, 0] rfl ?_
            exact ih41 x139 x140 x141 x142 v143 hx139 hx140 hx141 hx142 hv143
          · refine s_icmp_eq (tgt := 71) hC dL_same_65 (by decide) hv137 hx108 ?_ ?_
            · refine s_sub (L' := [(0, .ref (x + 0)), (1, .ref (x + 205 + 0)), (2, .ref (x + 205 + 1)), (3, .ref (x + 205 + 2)), (4, .ref (x + 205 + 6)), (5, vI x106), (6, vI x107), (7, vI 0), (8, vI ((-6))), (9, vI 0), (10, vI x108), (11, vI x129), (12, vI x130), (13, vI x131), (14, vI x132), (15, vI x133), (16, vI v136)]) [1, 2, 3, 4, 5, 6, 7, 8, 9, 10, 11, 12, 13, 14, 15, 16, 0] rfl ?_
              refine s_aload_n hC dL_same_71 rfl 3 rfl ?_
              refine s_iload hC dL_same_72 15 rfl ?_
              refine s_iaload (b := x + 205) hC hK (fun H h => (hI H h).2) hτ (by decide) a_Tab_2 dL_same_74 (fun v144 hv144 => ?_)
              refine s_bipush hC dL_same_75 (by decide) ?_
              refine s_ishr hC dL_same_77 ?_
              refine s_iconst hC dL_same_78 ?_
              refine s_iand hC dL_same_79 ?_
              refine s_nm ((i32_in _)) (fun v145 hv145 => ?_)
              refine s_istore (L' := [(17, vI v145), (0, .ref (x + 0)), (1, .ref (x + 205 + 0)), (2, .ref (x + 205 + 1)), (3, .ref (x + 205 + 2)), (4, .ref (x + 205 + 6)), (5, vI x106), (6, vI x107), (7, vI 0), (8, vI ((-6))), (9, vI 0), (10, vI x108), (11, vI x129), (12, vI x130), (13, vI x131), (14, vI x132), (15, vI x133), (16, vI v136)]) hC dL_same_80 (by decide) rfl ?_
              refine s_iload hC dL_same_82 17 rfl ?_
              refine s_bipush hC dL_same_84 (by decide) ?_
              refine s_irem hC dL_same_86 hv136 (inR_c _ rfl) (by decide) (fun v146 hv146 => ?_)
              refine s_iload hC dL_same_87 12 rfl ?_
              refine d_jp_I (0) (0) 104 (fun x148 => [(0, .ref (x + 0)), (1, .ref (x + 205 + 0)), (2, .ref (x + 205 + 1)), (3, .ref (x + 205 + 2)), (4, .ref (x + 205 + 6)), (5, vI x106), (6, vI x107), (7, vI 0), (8, vI ((-6))), (9, vI 0), (10, vI x108), (12, vI x130), (13, vI x131), (14, vI x132), (15, vI x133), (16, vI v136), (17, vI v145)]) (fun x148 => [vI x148]) (fun x148 hx148 => ?_) (fun j147 hj147 => ?_)
              · refine s_istore (L' := [(11, vI x148), (0, .ref (x + 0)), (1, .ref (x + 205 + 0)), (2, .ref (x + 205 + 1)), (3, .ref (x + 205 + 2)), (4, .ref (x + 205 + 6)), (5, vI x106), (6, vI x107), (7, vI 0), (8, vI ((-6))), (9, vI 0), (10, vI x108), (12, vI x130), (13, vI x131), (14, vI x132), (15, vI x133), (16, vI v136), (17, vI v145)]) hC dL_same_104 (by decide) rfl ?_
                refine s_iload hC dL_same_106 12 rfl ?_
                refine s_iload hC dL_same_108 17 rfl ?_
                refine s_iconst hC dL_same_110 ?_
                refine d_jp_I (0) (0) 119 (fun x150 => [(0, .ref (x + 0)), (1, .ref (x + 205 + 0)), (2, .ref (x + 205 + 1)), (3, .ref (x + 205 + 2)), (4, .ref (x + 205 + 6)), (5, vI x106), (6, vI x107), (7, vI 0), (8, vI ((-6))), (9, vI 0), (10, vI x108), (11, vI x148), (13, vI x131), (14, vI x132), (15, vI x133), (16, vI v136), (17, vI v145)]) (fun x150 => [vI x150, vI x130]) (fun x150 hx150 => ?_) (fun j149 hj149 => ?_)
                · refine s_iadd hC dL_same_119 ?_
                  refine s_ck0 (fun v151 hv151 => ?_)
                  refine s_istore (L' := [(12, vI v151), (0, .ref (x + 0)), (1, .ref (x + 205 + 0)), (2, .ref (x + 205 + 1)), (3, .ref (x + 205 + 2)), (4, .ref (x + 205 + 6)), (5, vI x106), (6, vI x107), (7, vI 0), (8, vI ((-6))), (9, vI 0), (10, vI x108), (11, vI x148), (13, vI x131), (14, vI x132), (15, vI x133), (16, vI v136), (17, vI v145)]) hC dL_same_120 (by decide) rfl ?_
                  refine s_iload hC dL_same_122 13 rfl ?_
                  refine s_iload hC dL_same_124 17 rfl ?_
                  refine s_iconst hC dL_same_126 ?_
                  refine d_jp_I (0) (0) 135 (fun x153 => [(0, .ref (x + 0)), (1, .ref (x + 205 + 0)), (2, .ref (x + 205 + 1)), (3, .ref (x + 205 + 2)), (4, .ref (x + 205 + 6)), (5, vI x106), (6, vI x107), (7, vI 0), (8, vI ((-6))), (9, vI 0), (10, vI x108), (11, vI x148), (12, vI v151), (14, vI x132), (15, vI x133), (16, vI v136), (17, vI v145)]) (fun x153 => [vI x153, vI x131]) (fun x153 hx153 => ?_) (fun j152 hj152 => ?_)
                  · refine s_iadd hC dL_same_135 ?_
                    refine s_ck0 (fun v154 hv154 => ?_)
                    refine s_istore (L' := [(13, vI v154), (0, .ref (x + 0)), (1, .ref (x + 205 + 0)), (2, .ref (x + 205 + 1)), (3, .ref (x + 205 + 2)), (4, .ref (x + 205 + 6)), (5, vI x106), (6, vI x107), (7, vI 0), (8, vI ((-6))), (9, vI 0), (10, vI x108), (11, vI x148), (12, vI v151), (14, vI x132), (15, vI x133), (16, vI v136), (17, vI v145)]) hC dL_same_136 (by decide) rfl ?_
                    refine s_iload hC dL_same_138 14 rfl ?_
                    refine s_iload hC dL_same_140 17 rfl ?_
                    refine s_iconst hC dL_same_142 ?_
                    refine d_jp_I (0) (0) 151 (fun x156 => [(0, .ref (x + 0)), (1, .ref (x + 205 + 0)), (2, .ref (x + 205 + 1)), (3, .ref (x + 205 + 2)), (4, .ref (x + 205 + 6)), (5, vI x106), (6, vI x107), (7, vI 0), (8, vI ((-6))), (9, vI 0), (10, vI x108), (11, vI x148), (12, vI v151), (13, vI v154), (15, vI x133), (16, vI v136), (17, vI v145)]) (fun x156 => [vI x156, vI x132]) (fun x156 hx156 => ?_) (fun j155 hj155 => ?_)
                    · refine s_iadd hC dL_same_151 ?_
                      refine s_ck0 (fun v157 hv157 => ?_)
                      refine s_istore (L' := [(14, vI v157), (0, .ref (x + 0)), (1, .ref (x + 205 + 0)), (2, .ref (x + 205 + 1)), (3, .ref (x + 205 + 2)), (4, .ref (x + 205 + 6)), (5, vI x106), (6, vI x107), (7, vI 0), (8, vI ((-6))), (9, vI 0), (10, vI x108), (11, vI x148), (12, vI v151), (13, vI v154), (15, vI x133), (16, vI v136), (17, vI v145)]) hC dL_same_152 (by decide) rfl ?_
                      refine s_aload_n hC dL_same_154 rfl 1 rfl ?_
                      refine s_iload hC dL_same_155 11 rfl ?_
                      refine s_iload hC dL_same_157 16 rfl ?_
                      refine s_bipush hC dL_same_159 (by decide) ?_
                      refine s_irem hC dL_same_161 hv136 (inR_c _ rfl) (by decide) (fun v158 hv158 => ?_)
                      refine s_iconst hC dL_same_162 ?_
                      refine s_callV_P (As := [vI x108, vI v158, vI 0]) (rest := []) (a := x + 0) hC hKA 3 (m_X4_slot (x := x) (y0 := x + 212) (by omega) (fun H h => (hI H h).1) hσ hB hx108 hv158 (inR_c _ rfl)) rfl (cb_of hC 3 q_c_yX4_slot q_i_X4 q_m_L_53 rfl rfl dd_yX4_slot ⟨Nat.le_of_ble_eq_true rfl, Nat.le_of_ble_eq_true rfl⟩) q_i_yX4_slot q_x_yX4_slot (s_recv hK (fun H h => (hI H h).1.x) (by decide) o_X rfl) rfl (Nat.le_of_ble_eq_true rfl) dL_same_163 ⟨Nat.le_of_ble_eq_true rfl, Nat.le_of_ble_eq_true rfl⟩ (fun r159 hr159 => ?_)
                      refine s_iload hC dL_same_166 17 rfl ?_
                      refine s_icmp_ne (tgt := 222) hC dL_same_168 (by decide) hr159 hv145 ?_ ?_
                      · refine s_sub (L' := []) [] rfl ?_
                        refine s_iconst hC dL_same_222 ?_
                        exact s_zret hC hr (Or.inl rfl) dL_same_223 (fun H hH => ⟨rfl, (inR_c _ rfl), hH⟩)
                      · refine s_sub (L' := [(0, .ref (x + 0)), (1, .ref (x + 205 + 0)), (2, .ref (x + 205 + 1)), (3, .ref (x + 205 + 2)), (4, .ref (x + 205 + 6)), (5, vI x106), (6, vI x107), (7, vI 0), (8, vI ((-6))), (9, vI 0), (10, vI x108), (11, vI x148), (12, vI v151), (13, vI v154), (14, vI v157), (15, vI x133), (16, vI v136)]) [1, 2, 3, 4, 5, 6, 7, 8, 9, 10, 11, 12, 13, 14, 0, 15, 16] rfl ?_
                        refine s_aload_n hC dL_same_171 rfl 0 rfl ?_
                        refine s_iload hC dL_same_172 10 rfl ?_
                        refine s_iload hC dL_same_174 16 rfl ?_
                        refine s_bipush hC dL_same_176 (by decide) ?_
                        refine s_irem hC dL_same_178 hv136 (inR_c _ rfl) (by decide) (fun v160 hv160 => ?_)
                        refine s_iconst hC dL_same_179 ?_
                        refine s_callV_P (As := [vI x108, vI v160, vI 1]) (rest := []) (a := x + 0) hC hKA 3 (m_X4_slot (x := x) (y0 := x + 212) (by omega) (fun H h => (hI H h).1) hσ hB hx108 hv160 (inR_c _ rfl)) rfl (cb_of hC 3 q_c_yX4_slot q_i_X4 q_m_L_53 rfl rfl dd_yX4_slot ⟨Nat.le_of_ble_eq_true rfl, Nat.le_of_ble_eq_true rfl⟩) q_i_yX4_slot q_x_yX4_slot (s_recv hK (fun H h => (hI H h).1.x) (by decide) o_X rfl) rfl (Nat.le_of_ble_eq_true rfl) dL_same_180 ⟨Nat.le_of_ble_eq_true rfl, Nat.le_of_ble_eq_true rfl⟩ (fun r161 hr161 => ?_)
                        refine s_aload_n hC dL_same_183 rfl 2 rfl ?_
                        refine s_iconst hC dL_same_184 ?_
                        refine s_aload_n hC dL_same_185 rfl 3 rfl ?_
                        refine s_iload hC dL_same_186 15 rfl ?_
                        refine s_iaload (b := x + 205) hC hK (fun H h => (hI H h).2) hτ (by decide) a_Tab_2 dL_same_188 (fun v162 hv162 => ?_)
                        refine s_bipush hC dL_same_189 (by decide) ?_
                        refine s_ishr hC dL_same_191 ?_
                        refine s_bipush hC dL_same_192 (by decide) ?_
                        refine s_iand hC dL_same_194 ?_
                        refine s_imul hC dL_same_195 ?_
                        refine s_iaload (b := x + 205) hC hK (fun H h => (hI H h).2) hτ (by decide) a_Tab_1 dL_same_196 (fun v163 hv163 => ?_)
                        refine s_icmp_ne (tgt := 222) hC dL_same_197 (by decide) hr161 hv163 ?_ ?_
                        · refine s_sub (L' := []) [] rfl ?_
                          refine s_iconst hC dL_same_222 ?_
                          exact s_zret hC hr (Or.inl rfl) dL_same_223 (fun H hH => ⟨rfl, (inR_c _ rfl), hH⟩)
                        · refine s_aload_n hC dL_same_200 rfl 0 rfl ?_
                          refine s_iload hC dL_same_201 10 rfl ?_
                          refine s_iload hC dL_same_203 16 rfl ?_
                          refine s_bipush hC dL_same_205 (by decide) ?_
                          refine s_irem hC dL_same_207 hv136 (inR_c _ rfl) (by decide) (fun v164 hv164 => ?_)
                          refine s_iconst hC dL_same_208 ?_
                          refine s_callV_P (As := [vI x108, vI v164, vI 2]) (rest := []) (a := x + 0) hC hKA 3 (m_X4_slot (x := x) (y0 := x + 212) (by omega) (fun H h => (hI H h).1) hσ hB hx108 hv164 (inR_c _ rfl)) rfl (cb_of hC 3 q_c_yX4_slot q_i_X4 q_m_L_53 rfl rfl dd_yX4_slot ⟨Nat.le_of_ble_eq_true rfl, Nat.le_of_ble_eq_true rfl⟩) q_i_yX4_slot q_x_yX4_slot (s_recv hK (fun H h => (hI H h).1.x) (by decide) o_X rfl) rfl (Nat.le_of_ble_eq_true rfl) dL_same_209 ⟨Nat.le_of_ble_eq_true rfl, Nat.le_of_ble_eq_true rfl⟩ (fun r165 hr165 => ?_)
                          refine s_aload_n hC dL_same_212 rfl 3 rfl ?_
                          refine s_iload hC dL_same_213 15 rfl ?_
                          refine s_iaload (b := x + 205) hC hK (fun H h => (hI H h).2) hτ (by decide) a_Tab_2 dL_same_215 (fun v166 hv166 => ?_)
                          refine s_callS_P (As := [vI v166]) (rest := [vI r165]) hC hKA 1 (m_L_cells (I := I) hv166) rfl (cb_of hC 1 q_c_yL_cells q_i_L q_m_L_10 rfl rfl dd_yL_cells ⟨Nat.le_of_ble_eq_true rfl, Nat.le_of_ble_eq_true rfl⟩) q_s_yL_cells rfl (Nat.le_of_ble_eq_true rfl) dL_same_216 ⟨Nat.le_of_ble_eq_true rfl, Nat.le_of_ble_eq_true rfl⟩ (fun r167 hr167 => ?_)
                          refine s_icmp_eq (tgt := 224) hC dL_same_219 (by decide) hr165 hr167 ?_ ?_
                          · refine s_sub (L' := [(0, .ref (x + 0)), (1, .ref (x + 205 + 0)), (2, .ref (x + 205 + 1)), (3, .ref (x + 205 + 2)), (4, .ref (x + 205 + 6)), (5, vI x106), (6, vI x107), (7, vI 0), (8, vI ((-6))), (9, vI 0), (10, vI x108), (11, vI x148), (12, vI v151), (13, vI v154), (14, vI v157), (15, vI x133)]) [0, 1, 2, 3, 4, 5, 6, 7, 8, 9, 10, 11, 12, 13, 14, 15] rfl ?_
                            exact hj138 x148 v151 v154 v157 hx148 hv151 hv154 hv157
                          · refine s_sub (L' := []) [] rfl ?_
                            refine s_iconst hC dL_same_222 ?_
                            exact s_zret hC hr (Or.inl rfl) dL_same_223 (fun H hH => ⟨rfl, (inR_c _ rfl), hH⟩)
                    · refine s_icmp_ne (tgt := 150) hC dL_same_143 (by decide) hv145 (inR_c _ rfl) ?_ ?_
                      · refine s_sub (L' := [(0, .ref (x + 0)), (1, .ref (x + 205 + 0)), (2, .ref (x + 205 + 1)), (3, .ref (x + 205 + 2)), (4, .ref (x + 205 + 6)), (5, vI x106), (6, vI x107), (7, vI 0), (8, vI ((-6))), (9, vI 0), (10, vI x108), (11, vI x148), (12, vI v151), (13, vI v154), (15, vI x133), (16, vI v136), (17, vI v145)]) [1, 2, 3, 4, 5, 6, 7, 8, 9, 10, 11, 12, 13, 0, 15, 16, 17] rfl ?_
                        refine s_iconst hC dL_same_150 ?_
                        exact hj155 0 (inR_c _ rfl)
                      · refine s_sub (L' := [(0, .ref (x + 0)), (1, .ref (x + 205 + 0)), (2, .ref (x + 205 + 1)), (3, .ref (x + 205 + 2)), (4, .ref (x + 205 + 6)), (5, vI x106), (6, vI x107), (7, vI 0), (8, vI ((-6))), (9, vI 0), (10, vI x108), (11, vI x148), (12, vI v151), (13, vI v154), (15, vI x133), (16, vI v136), (17, vI v145)]) [1, 2, 3, 4, 5, 6, 7, 8, 9, 10, 11, 12, 13, 0, 15, 16, 17] rfl ?_
                        refine s_iconst hC dL_same_146 ?_
                        refine s_goto (tgt := 151) hC dL_same_147 (by decide) ?_
                        exact hj155 1 (inR_c _ rfl)
                  · refine s_icmp_ne (tgt := 134) hC dL_same_127 (by decide) hv145 (inR_c _ rfl) ?_ ?_
                    · refine s_sub (L' := [(0, .ref (x + 0)), (1, .ref (x + 205 + 0)), (2, .ref (x + 205 + 1)), (3, .ref (x + 205 + 2)), (4, .ref (x + 205 + 6)), (5, vI x106), (6, vI x107), (7, vI 0), (8, vI ((-6))), (9, vI 0), (10, vI x108), (11, vI x148), (12, vI v151), (14, vI x132), (15, vI x133), (16, vI v136), (17, vI v145)]) [1, 2, 3, 4, 5, 6, 7, 8, 9, 10, 11, 12, 0, 14, 15, 16, 17] rfl ?_
                      refine s_iconst hC dL_same_134 ?_
                      exact hj152 0 (inR_c _ rfl)
                    · refine s_sub (L' := [(0, .ref (x + 0)), (1, .ref (x + 205 + 0)), (2, .ref (x + 205 + 1)), (3, .ref (x + 205 + 2)), (4, .ref (x + 205 + 6)), (5, vI x106), (6, vI x107), (7, vI 0), (8, vI ((-6))), (9, vI 0), (10, vI x108), (11, vI x148), (12, vI v151), (14, vI x132), (15, vI x133), (16, vI v136), (17, vI v145)]) [1, 2, 3, 4, 5, 6, 7, 8, 9, 10, 11, 12, 0, 14, 15, 16, 17] rfl ?_
                      refine s_iconst hC dL_same_130 ?_
                      refine s_goto (tgt := 135) hC dL_same_131 (by decide) ?_
                      exact hj152 1 (inR_c _ rfl)
                · refine s_icmp_ne (tgt := 118) hC dL_same_111 (by decide) hv145 (inR_c _ rfl) ?_ ?_
                  · refine s_sub (L' := [(0, .ref (x + 0)), (1, .ref (x + 205 + 0)), (2, .ref (x + 205 + 1)), (3, .ref (x + 205 + 2)), (4, .ref (x + 205 + 6)), (5, vI x106), (6, vI x107), (7, vI 0), (8, vI ((-6))), (9, vI 0), (10, vI x108), (11, vI x148), (13, vI x131), (14, vI x132), (15, vI x133), (16, vI v136), (17, vI v145)]) [1, 2, 3, 4, 5, 6, 7, 8, 9, 10, 11, 0, 13, 14, 15, 16, 17] rfl ?_
                    refine s_iconst hC dL_same_118 ?_
                    exact hj149 0 (inR_c _ rfl)
                  · refine s_sub (L' := [(0, .ref (x + 0)), (1, .ref (x + 205 + 0)), (2, .ref (x + 205 + 1)), (3, .ref (x + 205 + 2)), (4, .ref (x + 205 + 6)), (5, vI x106), (6, vI x107), (7, vI 0), (8, vI ((-6))), (9, vI 0), (10, vI x108), (11, vI x148), (13, vI x131), (14, vI x132), (15, vI x133), (16, vI v136), (17, vI v145)]) [1, 2, 3, 4, 5, 6, 7, 8, 9, 10, 11, 0, 13, 14, 15, 16, 17] rfl ?_
                    refine s_iconst hC dL_same_114 ?_
                    refine s_goto (tgt := 119) hC dL_same_115 (by decide) ?_
                    exact hj149 1 (inR_c _ rfl)
              · refine s_icmp_lt (tgt := 102) hC dL_same_89 (by decide) hv146 hx129 ?_ ?_
                · refine s_sub (L' := [(0, .ref (x + 0)), (1, .ref (x + 205 + 0)), (2, .ref (x + 205 + 1)), (3, .ref (x + 205 + 2)), (4, .ref (x + 205 + 6)), (5, vI x106), (6, vI x107), (7, vI 0), (8, vI ((-6))), (9, vI 0), (10, vI x108), (11, vI x129), (12, vI x130), (13, vI x131), (14, vI x132), (15, vI x133), (16, vI v136), (17, vI v145)]) [1, 2, 3, 4, 5, 6, 7, 8, 9, 10, 11, 12, 13, 14, 15, 16, 17, 0] rfl ?_
                  refine s_iload hC dL_same_102 11 rfl ?_
                  refine s_sub (L' := [(0, .ref (x + 0)), (1, .ref (x + 205 + 0)), (2, .ref (x + 205 + 1)), (3, .ref (x + 205 + 2)), (4, .ref (x + 205 + 6)), (5, vI x106), (6, vI x107), (7, vI 0), (8, vI ((-6))), (9, vI 0), (10, vI x108), (12, vI x130), (13, vI x131), (14, vI x132), (15, vI x133), (16, vI v136), (17, vI v145)]) [0, 1, 2, 3, 4, 5, 6, 7, 8, 9, 10, 12, 13, 14, 15, 16, 17] rfl ?_
                  exact hj147 x129 hx129
                · refine s_sub (L' := [(0, .ref (x + 0)), (1, .ref (x + 205 + 0)), (2, .ref (x + 205 + 1)), (3, .ref (x + 205 + 2)), (4, .ref (x + 205 + 6)), (5, vI x106), (6, vI x107), (7, vI 0), (8, vI ((-6))), (9, vI 0), (10, vI x108), (12, vI x130), (13, vI x131), (14, vI x132), (15, vI x133), (16, vI v136), (17, vI v145)]) [1, 2, 3, 4, 5, 6, 7, 8, 9, 10, 11, 13, 14, 15, 16, 17, 0] rfl ?_
                  refine s_iload hC dL_same_92 15 rfl ?_
                  refine s_bipush hC dL_same_94 (by decide) ?_
                  refine s_irem hC dL_same_96 hv136 (inR_c _ rfl) (by decide) (fun v168 hv168 => ?_)
                  refine s_iconst hC dL_same_97 ?_
                  refine s_iadd hC dL_same_98 ?_
                  refine s_goto (tgt := 104) hC dL_same_99 (by decide) ?_
                  refine s_ck0 (fun v169 hv169 => ?_)
                  exact hj147 v169 hv169
            · refine s_sub (L' := [(0, .ref (x + 0)), (1, .ref (x + 205 + 0)), (2, .ref (x + 205 + 1)), (3, .ref (x + 205 + 2)), (4, .ref (x + 205 + 6)), (5, vI x106), (6, vI x107), (7, vI 0), (8, vI ((-6))), (9, vI 0), (10, vI x108), (11, vI x129), (12, vI x130), (13, vI x131), (14, vI x132), (15, vI x133)]) [1, 2, 3, 4, 5, 6, 7, 8, 9, 10, 11, 12, 13, 14, 15, 16] rfl ?_
              refine s_goto (tgt := 224) hC dL_same_68 (by decide) ?_
              exact hj138 x129 x130 x131 x132 hx129 hx130 hx131 hx132
set_option maxHeartbeats 8000000 in
set_option maxRecDepth 100000 in
theorem m_L_would {l : Launch} {G : Gt} {x nb : Nat} {σ τ : Blk} {B : Nat → Blk} (hσ : Rg σ) (hB : RgB B) (hn : 2 ≤ nb) (hτ : Rg τ) {a1 : Int} (ha1 : inR a1) : MetS l yL_would cL_would 16 (some .boolean) { frames := 8, cells := 0, slots := 0, locals := 182 } G [.ref (x + 0), vI a1, .ref (x + 205 + 0), .ref (x + 205 + 1), .ref (x + 205 + 2), .ref (x + 205 + 3), .ref (x + 205 + 4), .ref (x + 205 + 5)] (VL G x σ B nb τ) (poD G x) (fun q => x ≤ q) 0 0 (g_L_would σ B nb τ a1) := by
  refine met_of (by decide) (Nat.le_of_ble_eq_true rfl) ?_
  intro p e s m below meth c hC hKA hr _
  have hK := hKA.1
  have hAx : ∀ q, Rx x (x + 212) q → x ≤ q := fun q h => by
    unfold Rx at h
    omega
  have hAm : ∀ q, Ab (x + 205) 7 q → x ≤ q := fun q h => by
    have := h.1
    omega
  unfold g_L_would
  refine s_sub (L' := [(0, .ref (x + 0)), (1, vI a1), (2, .ref (x + 205 + 0)), (3, .ref (x + 205 + 1)), (4, .ref (x + 205 + 2)), (5, .ref (x + 205 + 3)), (6, .ref (x + 205 + 4)), (7, .ref (x + 205 + 5))]) [0, 1, 2, 3, 4, 5, 6, 7] rfl ?_
  refine s_bipush hC dL_would_0 (by decide) ?_
  refine s_istore (L' := [(8, vI ((-6))), (0, .ref (x + 0)), (1, vI a1), (2, .ref (x + 205 + 0)), (3, .ref (x + 205 + 1)), (4, .ref (x + 205 + 2)), (5, .ref (x + 205 + 3)), (6, .ref (x + 205 + 4)), (7, .ref (x + 205 + 5))]) hC dL_would_2 (by decide) rfl ?_
  refine s_iconst hC dL_would_4 ?_
  refine s_istore (L' := [(9, vI 0), (8, vI ((-6))), (0, .ref (x + 0)), (1, vI a1), (2, .ref (x + 205 + 0)), (3, .ref (x + 205 + 1)), (4, .ref (x + 205 + 2)), (5, .ref (x + 205 + 3)), (6, .ref (x + 205 + 4)), (7, .ref (x + 205 + 5))]) hC dL_would_5 (by decide) rfl ?_
  refine s_iload_n hC dL_would_7 rfl 3 rfl ?_
  refine s_bipush hC dL_would_8 (by decide) ?_
  refine s_callS_P (As := [vI a1, vI 17]) (rest := []) hC hKA 2 (m_L_low (I := (VL G x σ B nb τ)) ha1 (inR_c _ rfl)) rfl (cb_of hC 2 q_c_yL_low q_i_L q_m_L_88 rfl rfl dd_yL_low ⟨Nat.le_of_ble_eq_true rfl, Nat.le_of_ble_eq_true rfl⟩) q_s_yL_low rfl (Nat.le_of_ble_eq_true rfl) dL_would_10 ⟨Nat.le_of_ble_eq_true rfl, Nat.le_of_ble_eq_true rfl⟩ (fun r1 hr1 => ?_)
  refine s_istore (L' := [(10, vI r1), (9, vI 0), (8, vI ((-6))), (0, .ref (x + 0)), (1, vI a1), (2, .ref (x + 205 + 0)), (3, .ref (x + 205 + 1)), (4, .ref (x + 205 + 2)), (5, .ref (x + 205 + 3)), (6, .ref (x + 205 + 4)), (7, .ref (x + 205 + 5))]) hC dL_would_13 (by decide) rfl ?_
  refine s_bipush hC dL_would_15 (by decide) ?_
  refine s_istore (L' := [(11, vI 16), (10, vI r1), (9, vI 0), (8, vI ((-6))), (0, .ref (x + 0)), (1, vI a1), (2, .ref (x + 205 + 0)), (3, .ref (x + 205 + 1)), (4, .ref (x + 205 + 2)), (5, .ref (x + 205 + 3)), (6, .ref (x + 205 + 4)), (7, .ref (x + 205 + 5))]) hC dL_would_17 (by decide) rfl ?_
  refine s_sub (L' := [(0, .ref (x + 0)), (1, vI a1), (2, .ref (x + 205 + 0)), (3, .ref (x + 205 + 1)), (4, .ref (x + 205 + 2)), (5, .ref (x + 205 + 3)), (6, .ref (x + 205 + 4)), (7, .ref (x + 205 + 5)), (8, vI ((-6))), (9, vI 0), (10, vI r1), (11, vI 16)]) [4, 5, 6, 7, 8, 9, 10, 11, 3, 2, 1, 0] rfl ?_
  refine d_jp_ID (V := VL G x) (0) (0) 243 (fun x3 => [(0, .ref (x + 0)), (1, vI a1), (2, .ref (x + 205 + 0)), (3, .ref (x + 205 + 1)), (4, .ref (x + 205 + 2)), (5, .ref (x + 205 + 3)), (6, .ref (x + 205 + 4)), (7, .ref (x + 205 + 5)), (8, vI x3)]) (fun x3 => []) (fun x3 σ4 B5 N6 τ7 hx3 hσ4 hB5 hN6 hτ7 => ?_) (fun j2 hj2 => ?_)
  · refine s_iload_n hC dL_would_243 rfl 1 rfl ?_
    refine s_iconst hC dL_would_244 ?_
    refine s_ishr hC dL_would_245 ?_
    refine s_bipush hC dL_would_246 (by decide) ?_
    refine s_callS_P (As := [vI (ishr a1 5), vI 100]) (rest := []) hC hKA 2 (m_L_low (I := (VL G x σ4 B5 N6 τ7)) (i32_in _) (inR_c _ rfl)) rfl (cb_of hC 2 q_c_yL_low q_i_L q_m_L_88 rfl rfl dd_yL_low ⟨Nat.le_of_ble_eq_true rfl, Nat.le_of_ble_eq_true rfl⟩) q_s_yL_low rfl (Nat.le_of_ble_eq_true rfl) dL_would_248 ⟨Nat.le_of_ble_eq_true rfl, Nat.le_of_ble_eq_true rfl⟩ (fun r8 hr8 => ?_)
    refine s_istore (L' := [(11, vI r8), (0, .ref (x + 0)), (1, vI a1), (2, .ref (x + 205 + 0)), (3, .ref (x + 205 + 1)), (4, .ref (x + 205 + 2)), (5, .ref (x + 205 + 3)), (6, .ref (x + 205 + 4)), (7, .ref (x + 205 + 5)), (8, vI x3)]) hC dL_would_251 (by decide) rfl ?_
    refine s_iload hC dL_would_253 0 rfl ?_
    refine s_aload_n hC dL_would_255 rfl 4 rfl ?_
    refine s_callS_P (As := [vI r8, .ref (x + 205 + 1)]) (rest := []) hC hKA 2 (m_L_rowOf (b := x + 205) (fun H h => h.2) hτ7 hr8 (by decide) a_Tab_1) rfl (cb_of hC 2 q_c_yL_rowOf q_i_L q_m_L_38 rfl rfl dd_yL_rowOf ⟨Nat.le_of_ble_eq_true rfl, Nat.le_of_ble_eq_true rfl⟩) q_s_yL_rowOf rfl (Nat.le_of_ble_eq_true rfl) dL_would_256 ⟨Nat.le_of_ble_eq_true rfl, Nat.le_of_ble_eq_true rfl⟩ (fun r9 hr9 => ?_)
    refine s_istore (L' := [(12, vI r9), (11, vI r8), (0, .ref (x + 0)), (1, vI a1), (2, .ref (x + 205 + 0)), (3, .ref (x + 205 + 1)), (4, .ref (x + 205 + 2)), (5, .ref (x + 205 + 3)), (6, .ref (x + 205 + 4)), (7, .ref (x + 205 + 5)), (8, vI x3)]) hC dL_would_259 (by decide) rfl ?_
    refine s_bipush hC dL_would_261 (by decide) ?_
    refine s_istore (L' := [(13, vI 40), (12, vI r9), (11, vI r8), (0, .ref (x + 0)), (1, vI a1), (2, .ref (x + 205 + 0)), (3, .ref (x + 205 + 1)), (4, .ref (x + 205 + 2)), (5, .ref (x + 205 + 3)), (6, .ref (x + 205 + 4)), (7, .ref (x + 205 + 5)), (8, vI x3)]) hC dL_would_263 (by decide) rfl ?_
    refine s_sub (L' := [(0, .ref (x + 0)), (2, .ref (x + 205 + 0)), (3, .ref (x + 205 + 1)), (4, .ref (x + 205 + 2)), (5, .ref (x + 205 + 3)), (6, .ref (x + 205 + 4)), (7, .ref (x + 205 + 5)), (8, vI x3), (11, vI r8), (12, vI r9), (13, vI 40)]) [3, 5, 6, 7, 8, 9, 10, 11, 2, 1, 0] rfl ?_
    refine d_jp_ID (V := VL G x) (0) (0) 328 (fun x11 => [(0, .ref (x + 0)), (8, vI x3), (11, vI r8), (13, vI x11)]) (fun x11 => []) (fun x11 σ12 B13 N14 τ15 hx11 hσ12 hB13 hN14 hτ15 => ?_) (fun j10 hj10 => ?_)
    · refine s_aload_n hC dL_would_328 rfl 0 rfl ?_
      refine u_up4 (V := fun σ B nb => VL G x σ B nb τ15) (As := []) (rest := []) (a := x + 0) (mc := 0) (ms := 0) hC hKA 0 (m_X4_bestHead (x := x) (y0 := x + 212) (V := fun σ B nb => VL G x σ B nb τ15) (by omega) VL.wv hσ12 hB13 hN14) (fun q h => hAx q h) rfl (cb_of hC 0 q_c_yX4_bestHead q_i_X4 q_m_L_102 rfl rfl dd_yX4_bestHead ⟨Nat.le_of_ble_eq_true rfl, Nat.le_of_ble_eq_true rfl⟩) q_i_yX4_bestHead q_x_yX4_bestHead (s_recv hK (fun H h => (VL.wv.1 _ _ _ _ h).x) (by decide) o_X rfl) rfl (Nat.le_of_ble_eq_true rfl) dL_would_329 ⟨Nat.le_of_ble_eq_true rfl, Nat.le_of_ble_eq_true rfl⟩ (fun r16 σ17 B18 N19 hr16 hσ17 hB18 hN19 => ?_)
      refine s_iload hC dL_would_332 1 rfl ?_
      refine s_icmp_ne (tgt := 362) hC dL_would_334 (by decide) hr16 hx3 ?_ ?_
      · refine s_sub (L' := []) [] rfl ?_
        refine s_iconst hC dL_would_362 ?_
        exact s_zret hC hr (Or.inl rfl) dL_would_363 (fun H hH => ⟨rfl, (inR_c _ rfl), hσ17, hB18, hN19, hτ15, hH⟩)
      · refine s_sub (L' := [(0, .ref (x + 0)), (11, vI r8), (13, vI x11)]) [0, 2, 3] rfl ?_
        refine s_aload_n hC dL_would_337 rfl 0 rfl ?_
        refine s_iload hC dL_would_338 1 rfl ?_
        refine u_up4 (V := fun σ B nb => VL G x σ B nb τ15) (As := [vI r8]) (rest := []) (a := x + 0) (mc := 0) (ms := 0) hC hKA 1 (m_X4_most (x := x) (y0 := x + 212) (V := fun σ B nb => VL G x σ B nb τ15) (by omega) VL.wv hσ17 hB18 hN19 hr8) (fun q h => hAx q h) rfl (cb_of hC 1 q_c_yX4_most q_i_X4 q_m_L_106 rfl rfl dd_yX4_most ⟨Nat.le_of_ble_eq_true rfl, Nat.le_of_ble_eq_true rfl⟩) q_i_yX4_most q_x_yX4_most (s_recv hK (fun H h => (VL.wv.1 _ _ _ _ h).x) (by decide) o_X rfl) rfl (Nat.le_of_ble_eq_true rfl) dL_would_340 ⟨Nat.le_of_ble_eq_true rfl, Nat.le_of_ble_eq_true rfl⟩ (fun r20 σ21 B22 N23 hr20 hσ21 hB22 hN23 => ?_)
        refine s_iload hC dL_would_343 2 rfl ?_
        refine d_jp_I (0) (0) 355 (fun x25 => []) (fun x25 => [vI x25, vI r20]) (fun x25 hx25 => ?_) (fun j24 hj24 => ?_)
        · refine s_icmp_ne (tgt := 362) hC dL_would_355 (by decide) hr20 hx25 ?_ ?_
          · refine s_iconst hC dL_would_362 ?_
            exact s_zret hC hr (Or.inl rfl) dL_would_363 (fun H hH => ⟨rfl, (inR_c _ rfl), hσ21, hB22, hN23, hτ15, hH⟩)
          · refine s_iconst hC dL_would_358 ?_
            refine s_goto (tgt := 363) hC dL_would_359 (by decide) ?_
            exact s_zret hC hr (Or.inr rfl) dL_would_363 (fun H hH => ⟨rfl, (inR_c _ rfl), hσ21, hB22, hN23, hτ15, hH⟩)
        · refine s_if_ge (tgt := 353) hC dL_would_345 (by decide) hx11 ?_ ?_
          · refine s_sub (L' := [(13, vI x11)]) [2] rfl ?_
            refine s_iload hC dL_would_353 0 rfl ?_
            refine s_sub (L' := []) [] rfl ?_
            exact hj24 x11 hx11
          · refine s_sub (L' := []) [] rfl ?_
            refine s_bipush hC dL_would_348 (by decide) ?_
            refine s_goto (tgt := 355) hC dL_would_350 (by decide) ?_
            exact hj24 ((-6)) (inR_c _ rfl)
    · refine d_lp_ID (V := VL G x) (F := g_L_would_L265 r9 j10) 265 (fun x26 => [(0, .ref (x + 0)), (2, .ref (x + 205 + 0)), (3, .ref (x + 205 + 1)), (4, .ref (x + 205 + 2)), (5, .ref (x + 205 + 3)), (6, .ref (x + 205 + 4)), (7, .ref (x + 205 + 5)), (8, vI x3), (11, vI r8), (12, vI r9), (13, vI x26)]) (fun _ _ _ _ _ => rfl) (fun n ih265 x26 σ27 B28 N29 τ30 hx26 hσ27 hB28 hN29 hτ30 => ?_) fu 40 σ4 B5 N6 τ7 (inR_c _ rfl) hσ4 hB5 hN6 hτ7
      rw [g_L_would_L265]
      refine s_iload hC dL_would_265 10 rfl ?_
      refine s_if_lt (tgt := 328) hC dL_would_267 (by decide) hx26 ?_ ?_
      · refine s_sub (L' := [(0, .ref (x + 0)), (8, vI x3), (11, vI r8), (13, vI x26)]) [0, 7, 8, 10] rfl ?_
        exact hj10 x26 σ27 B28 N29 τ30 hx26 hσ27 hB28 hN29 hτ30
      · refine s_aload_n hC dL_would_270 rfl 1 rfl ?_
        refine s_aload_n hC dL_would_271 rfl 2 rfl ?_
        refine s_aload hC dL_would_272 3 rfl ?_
        refine s_aload hC dL_would_274 4 rfl ?_
        refine s_aload hC dL_would_276 5 rfl ?_
        refine s_aload hC dL_would_278 6 rfl ?_
        refine s_callS_U (J := fun τ => VL G x σ27 B28 N29 τ) (As := [.ref (x + 205 + 0), .ref (x + 205 + 1), .ref (x + 205 + 2), .ref (x + 205 + 3), .ref (x + 205 + 4), .ref (x + 205 + 5)]) (rest := []) hC hKA 6 (m_L_copy (b := x + 205) (J := fun τ => VL G x σ27 B28 N29 τ) VL.wd hτ30 (by decide) a_Tab_0 (by decide) a_Tab_1 (by decide) a_Tab_2 (by decide) a_Tab_3 (by decide) a_Tab_4 (by decide) a_Tab_5) (fun q h => hAm q h) rfl (cb_of hC 6 q_c_yL_copy q_i_L q_m_L_91 rfl rfl dd_yL_copy ⟨Nat.le_of_ble_eq_true rfl, Nat.le_of_ble_eq_true rfl⟩) q_s_yL_copy rfl (Nat.le_of_ble_eq_true rfl) dL_would_280 ⟨Nat.le_of_ble_eq_true rfl, Nat.le_of_ble_eq_true rfl⟩ (fun τ31 hτ31 => ?_)
        refine s_iload hC dL_would_283 9 rfl ?_
        refine d_jp_I (0) (0) 295 (fun x33 => [(0, .ref (x + 0)), (2, .ref (x + 205 + 0)), (3, .ref (x + 205 + 1)), (4, .ref (x + 205 + 2)), (5, .ref (x + 205 + 3)), (6, .ref (x + 205 + 4)), (7, .ref (x + 205 + 5)), (8, vI x3), (11, vI r8), (12, vI r9), (13, vI x26)]) (fun x33 => [vI x33]) (fun x33 hx33 => ?_) (fun j32 hj32 => ?_)
        · refine s_iload hC dL_would_295 10 rfl ?_
          refine s_iload hC dL_would_297 9 rfl ?_
          refine d_jp_I (0) (0) 307 (fun x35 => [(0, .ref (x + 0)), (2, .ref (x + 205 + 0)), (3, .ref (x + 205 + 1)), (4, .ref (x + 205 + 2)), (5, .ref (x + 205 + 3)), (6, .ref (x + 205 + 4)), (7, .ref (x + 205 + 5)), (8, vI x3), (11, vI r8), (12, vI r9), (13, vI x26)]) (fun x35 => [vI x35, vI x26, vI x33]) (fun x35 hx35 => ?_) (fun j34 hj34 => ?_)
          · refine s_aload hC dL_would_307 4 rfl ?_
            refine s_aload hC dL_would_309 5 rfl ?_
            refine s_aload hC dL_would_311 6 rfl ?_
            refine s_callS_W (J := fun τ => VL G x σ27 B28 N29 τ) (As := [vI x33, vI x26, vI x35, .ref (x + 205 + 3), .ref (x + 205 + 4), .ref (x + 205 + 5)]) (rest := []) hC hKA 6 (m_L_write (b := x + 205) (J := fun τ => VL G x σ27 B28 N29 τ) VL.wd hτ31 hx33 hx26 hx35 (by decide) a_Tab_3 (by decide) a_Tab_4 (by decide) a_Tab_5) (fun q h => hAm q h) rfl (cb_of hC 6 q_c_yL_write q_i_L q_m_L_42 rfl rfl dd_yL_write ⟨Nat.le_of_ble_eq_true rfl, Nat.le_of_ble_eq_true rfl⟩) q_s_yL_write rfl (Nat.le_of_ble_eq_true rfl) dL_would_313 ⟨Nat.le_of_ble_eq_true rfl, Nat.le_of_ble_eq_true rfl⟩ (fun r37 τ36 hr37 hτ36 => ?_)
            refine s_if_eq (tgt := 322) hC dL_would_316 (by decide) hr37 ?_ ?_
            · refine s_iincK hC dL_would_322 10 rfl (by decide) (fun v38 => [(13, vI v38), (0, .ref (x + 0)), (2, .ref (x + 205 + 0)), (3, .ref (x + 205 + 1)), (4, .ref (x + 205 + 2)), (5, .ref (x + 205 + 3)), (6, .ref (x + 205 + 4)), (7, .ref (x + 205 + 5)), (8, vI x3), (11, vI r8), (12, vI r9)]) (fun _ => rfl) (fun v38 hv38 => ?_)
              refine s_goto (tgt := 265) hC dL_would_325 (by decide) ?_
              refine s_sub (L' := [(0, .ref (x + 0)), (2, .ref (x + 205 + 0)), (3, .ref (x + 205 + 1)), (4, .ref (x + 205 + 2)), (5, .ref (x + 205 + 3)), (6, .ref (x + 205 + 4)), (7, .ref (x + 205 + 5)), (8, vI x3), (11, vI r8), (12, vI r9), (13, vI v38)]) [1, 2, 3, 4, 5, 6, 7, 8, 9, 10, 0] rfl ?_
              exact ih265 v38 σ27 B28 N29 τ36 hv38 hσ27 hB28 hN29 hτ36
            · refine s_sub (L' := [(0, .ref (x + 0)), (8, vI x3), (11, vI r8), (13, vI x26)]) [0, 7, 8, 10] rfl ?_
              refine s_goto (tgt := 328) hC dL_would_319 (by decide) ?_
              exact hj10 x26 σ27 B28 N29 τ36 hx26 hσ27 hB28 hN29 hτ36
          · refine s_if_ge (tgt := 306) hC dL_would_299 (by decide) hr9 ?_ ?_
            · refine s_iconst hC dL_would_306 ?_
              exact hj34 0 (inR_c _ rfl)
            · refine s_iconst hC dL_would_302 ?_
              refine s_goto (tgt := 307) hC dL_would_303 (by decide) ?_
              exact hj34 1 (inR_c _ rfl)
        · refine s_if_ge (tgt := 293) hC dL_would_285 (by decide) hr9 ?_ ?_
          · refine s_iload hC dL_would_293 9 rfl ?_
            exact hj32 r9 hr9
          · refine s_bipush hC dL_would_288 (by decide) ?_
            refine s_goto (tgt := 295) hC dL_would_290 (by decide) ?_
            exact hj32 6 (inR_c _ rfl)
  · refine d_lp_IIID (V := VL G x) (F := g_L_would_L19 r1 j2) 19 (fun x39 x40 x41 => [(0, .ref (x + 0)), (1, vI a1), (2, .ref (x + 205 + 0)), (3, .ref (x + 205 + 1)), (4, .ref (x + 205 + 2)), (5, .ref (x + 205 + 3)), (6, .ref (x + 205 + 4)), (7, .ref (x + 205 + 5)), (8, vI x39), (9, vI x40), (10, vI r1), (11, vI x41)]) (fun _ _ _ _ _ _ _ => rfl) (fun n ih19 x39 x40 x41 σ42 B43 N44 τ45 hx39 hx40 hx41 hσ42 hB43 hN44 hτ45 => ?_) fu ((-6)) 0 16 σ B nb τ (inR_c _ rfl) (inR_c _ rfl) (inR_c _ rfl) hσ hB hn hτ
    rw [g_L_would_L19]
    refine s_iload hC dL_would_19 11 rfl ?_
    refine s_if_lt (tgt := 243) hC dL_would_21 (by decide) hx41 ?_ ?_
    · refine s_sub (L' := [(0, .ref (x + 0)), (1, vI a1), (2, .ref (x + 205 + 0)), (3, .ref (x + 205 + 1)), (4, .ref (x + 205 + 2)), (5, .ref (x + 205 + 3)), (6, .ref (x + 205 + 4)), (7, .ref (x + 205 + 5)), (8, vI x39)]) [0, 1, 2, 3, 4, 5, 6, 7, 8] rfl ?_
      exact hj2 x39 σ42 B43 N44 τ45 hx39 hσ42 hB43 hN44 hτ45
    · refine s_aload_n hC dL_would_24 rfl 2 rfl ?_
      refine s_aload_n hC dL_would_25 rfl 3 rfl ?_
      refine s_aload hC dL_would_26 4 rfl ?_
      refine s_aload hC dL_would_28 5 rfl ?_
      refine s_aload hC dL_would_30 6 rfl ?_
      refine s_aload hC dL_would_32 7 rfl ?_
      refine s_callS_U (J := fun τ => VL G x σ42 B43 N44 τ) (As := [.ref (x + 205 + 0), .ref (x + 205 + 1), .ref (x + 205 + 2), .ref (x + 205 + 3), .ref (x + 205 + 4), .ref (x + 205 + 5)]) (rest := []) hC hKA 6 (m_L_copy (b := x + 205) (J := fun τ => VL G x σ42 B43 N44 τ) VL.wd hτ45 (by decide) a_Tab_0 (by decide) a_Tab_1 (by decide) a_Tab_2 (by decide) a_Tab_3 (by decide) a_Tab_4 (by decide) a_Tab_5) (fun q h => hAm q h) rfl (cb_of hC 6 q_c_yL_copy q_i_L q_m_L_91 rfl rfl dd_yL_copy ⟨Nat.le_of_ble_eq_true rfl, Nat.le_of_ble_eq_true rfl⟩) q_s_yL_copy rfl (Nat.le_of_ble_eq_true rfl) dL_would_34 ⟨Nat.le_of_ble_eq_true rfl, Nat.le_of_ble_eq_true rfl⟩ (fun τ46 hτ46 => ?_)
      refine s_aload hC dL_would_37 5 rfl ?_
      refine s_iconst hC dL_would_39 ?_
      refine s_iload hC dL_would_40 11 rfl ?_
      refine s_iastore (b := x + 205) (J := fun τ => VL G x σ42 B43 N44 τ) hC hK VL.wd (fun q h => hAm q h) hτ46 hx41 (by decide) a_Tab_3 dL_would_42 (fun τ47 hτ47 => ?_)
      refine s_aload hC dL_would_43 5 rfl ?_
      refine s_aload hC dL_would_45 6 rfl ?_
      refine s_aload hC dL_would_47 7 rfl ?_
      refine s_callS_W (J := fun τ => VL G x σ42 B43 N44 τ) (As := [.ref (x + 205 + 3), .ref (x + 205 + 4), .ref (x + 205 + 5)]) (rest := []) hC hKA 3 (m_L_pack (b := x + 205) (J := fun τ => VL G x σ42 B43 N44 τ) VL.wd hτ47 (by decide) a_Tab_3 (by decide) a_Tab_4 (by decide) a_Tab_5) (fun q h => hAm q h) rfl (cb_of hC 3 q_c_yL_pack q_i_L q_m_L_95 rfl rfl dd_yL_pack ⟨Nat.le_of_ble_eq_true rfl, Nat.le_of_ble_eq_true rfl⟩) q_s_yL_pack rfl (Nat.le_of_ble_eq_true rfl) dL_would_49 ⟨Nat.le_of_ble_eq_true rfl, Nat.le_of_ble_eq_true rfl⟩ (fun r49 τ48 hr49 hτ48 => ?_)
      refine s_istore (L' := [(12, vI r49), (0, .ref (x + 0)), (1, vI a1), (2, .ref (x + 205 + 0)), (3, .ref (x + 205 + 1)), (4, .ref (x + 205 + 2)), (5, .ref (x + 205 + 3)), (6, .ref (x + 205 + 4)), (7, .ref (x + 205 + 5)), (8, vI x39), (9, vI x40), (10, vI r1), (11, vI x41)]) hC dL_would_52 (by decide) rfl ?_
      refine s_iload hC dL_would_54 0 rfl ?_
      refine d_jp_I (0) (0) 75 (fun x51 => [(0, .ref (x + 0)), (1, vI a1), (2, .ref (x + 205 + 0)), (3, .ref (x + 205 + 1)), (4, .ref (x + 205 + 2)), (5, .ref (x + 205 + 3)), (6, .ref (x + 205 + 4)), (7, .ref (x + 205 + 5)), (8, vI x39), (9, vI x40), (10, vI r1), (11, vI x41), (12, vI r49)]) (fun x51 => [vI x51]) (fun x51 hx51 => ?_) (fun j50 hj50 => ?_)
      · refine s_istore (L' := [(13, vI x51), (0, .ref (x + 0)), (1, vI a1), (2, .ref (x + 205 + 0)), (3, .ref (x + 205 + 1)), (4, .ref (x + 205 + 2)), (5, .ref (x + 205 + 3)), (6, .ref (x + 205 + 4)), (7, .ref (x + 205 + 5)), (8, vI x39), (9, vI x40), (10, vI r1), (11, vI x41), (12, vI r49)]) hC dL_would_75 (by decide) rfl ?_
        refine s_iload hC dL_would_77 12 rfl ?_
        refine s_iload hC dL_would_79 11 rfl ?_
        refine d_jp_D (V := VL G x) (0) (0) 195 ([(0, .ref (x + 0)), (1, vI a1), (2, .ref (x + 205 + 0)), (3, .ref (x + 205 + 1)), (4, .ref (x + 205 + 2)), (5, .ref (x + 205 + 3)), (6, .ref (x + 205 + 4)), (7, .ref (x + 205 + 5)), (8, vI x39), (9, vI x40), (10, vI r1), (11, vI x41), (12, vI r49), (13, vI x51)]) ([]) (fun σ53 B54 N55 τ56 hσ53 hB54 hN55 hτ56 => ?_) (fun j52 hj52 => ?_)
        · refine s_iload hC dL_would_195 12 rfl ?_
          refine d_jp_II (0) (0) 237 (fun x58 x59 => [(0, .ref (x + 0)), (1, vI a1), (2, .ref (x + 205 + 0)), (3, .ref (x + 205 + 1)), (4, .ref (x + 205 + 2)), (5, .ref (x + 205 + 3)), (6, .ref (x + 205 + 4)), (7, .ref (x + 205 + 5)), (8, vI x58), (9, vI x59), (10, vI r1), (11, vI x41)]) (fun x58 x59 => []) (fun x58 x59 hx58 hx59 => ?_) (fun j57 hj57 => ?_)
          · refine s_iincK hC dL_would_237 11 rfl (by decide) (fun v60 => [(11, vI v60), (0, .ref (x + 0)), (1, vI a1), (2, .ref (x + 205 + 0)), (3, .ref (x + 205 + 1)), (4, .ref (x + 205 + 2)), (5, .ref (x + 205 + 3)), (6, .ref (x + 205 + 4)), (7, .ref (x + 205 + 5)), (8, vI x58), (9, vI x59), (10, vI r1)]) (fun _ => rfl) (fun v60 hv60 => ?_)
            refine s_goto (tgt := 19) hC dL_would_240 (by decide) ?_
            refine s_sub (L' := [(0, .ref (x + 0)), (1, vI a1), (2, .ref (x + 205 + 0)), (3, .ref (x + 205 + 1)), (4, .ref (x + 205 + 2)), (5, .ref (x + 205 + 3)), (6, .ref (x + 205 + 4)), (7, .ref (x + 205 + 5)), (8, vI x58), (9, vI x59), (10, vI r1), (11, vI v60)]) [1, 2, 3, 4, 5, 6, 7, 8, 9, 10, 11, 0] rfl ?_
            exact ih19 x58 x59 v60 σ53 B54 N55 τ56 hx58 hx59 hv60 hσ53 hB54 hN55 hτ56
          · refine s_if_eq (tgt := 237) hC dL_would_197 (by decide) hr49 ?_ ?_
            · refine s_sub (L' := [(0, .ref (x + 0)), (1, vI a1), (2, .ref (x + 205 + 0)), (3, .ref (x + 205 + 1)), (4, .ref (x + 205 + 2)), (5, .ref (x + 205 + 3)), (6, .ref (x + 205 + 4)), (7, .ref (x + 205 + 5)), (8, vI x39), (9, vI x40), (10, vI r1), (11, vI x41)]) [0, 1, 2, 3, 4, 5, 6, 7, 8, 9, 10, 11] rfl ?_
              exact hj57 x39 x40 hx39 hx40
            · refine s_sub (L' := [(0, .ref (x + 0)), (1, vI a1), (2, .ref (x + 205 + 0)), (3, .ref (x + 205 + 1)), (4, .ref (x + 205 + 2)), (5, .ref (x + 205 + 3)), (6, .ref (x + 205 + 4)), (7, .ref (x + 205 + 5)), (8, vI x39), (9, vI x40), (10, vI r1), (11, vI x41), (13, vI x51)]) [0, 1, 2, 3, 4, 5, 6, 7, 8, 9, 10, 11, 13] rfl ?_
              refine s_iload hC dL_would_200 11 rfl ?_
              refine s_iconst hC dL_would_202 ?_
              refine s_irem hC dL_would_203 hx41 (inR_c _ rfl) (by decide) (fun v61 hv61 => ?_)
              refine s_iconst hC dL_would_204 ?_
              refine s_icmp_eq (tgt := 237) hC dL_would_205 (by decide) hv61 (inR_c _ rfl) ?_ ?_
              · refine s_sub (L' := [(0, .ref (x + 0)), (1, vI a1), (2, .ref (x + 205 + 0)), (3, .ref (x + 205 + 1)), (4, .ref (x + 205 + 2)), (5, .ref (x + 205 + 3)), (6, .ref (x + 205 + 4)), (7, .ref (x + 205 + 5)), (8, vI x39), (9, vI x40), (10, vI r1), (11, vI x41)]) [0, 1, 2, 3, 4, 5, 6, 7, 8, 9, 10, 11] rfl ?_
                exact hj57 x39 x40 hx39 hx40
              · refine s_aload_n hC dL_would_208 rfl 2 rfl ?_
                refine s_iconst hC dL_would_209 ?_
                refine s_iaload (b := x + 205) hC hK (fun H h => h.2) hτ56 (by decide) a_Tab_0 dL_would_210 (fun v62 hv62 => ?_)
                refine s_if_eq (tgt := 237) hC dL_would_211 (by decide) hv62 ?_ ?_
                · refine s_sub (L' := [(0, .ref (x + 0)), (1, vI a1), (2, .ref (x + 205 + 0)), (3, .ref (x + 205 + 1)), (4, .ref (x + 205 + 2)), (5, .ref (x + 205 + 3)), (6, .ref (x + 205 + 4)), (7, .ref (x + 205 + 5)), (8, vI x39), (9, vI x40), (10, vI r1), (11, vI x41)]) [0, 1, 2, 3, 4, 5, 6, 7, 8, 9, 10, 11] rfl ?_
                  exact hj57 x39 x40 hx39 hx40
                · refine s_iload hC dL_would_214 8 rfl ?_
                  refine d_jp_ (0) (0) 229 ([(0, .ref (x + 0)), (1, vI a1), (2, .ref (x + 205 + 0)), (3, .ref (x + 205 + 1)), (4, .ref (x + 205 + 2)), (5, .ref (x + 205 + 3)), (6, .ref (x + 205 + 4)), (7, .ref (x + 205 + 5)), (10, vI r1), (11, vI x41), (13, vI x51)]) ([]) ?_ (fun j63 hj63 => ?_)
                  · refine s_iload hC dL_would_229 9 rfl ?_
                    refine s_istore (L' := [(8, vI x41), (0, .ref (x + 0)), (1, vI a1), (2, .ref (x + 205 + 0)), (3, .ref (x + 205 + 1)), (4, .ref (x + 205 + 2)), (5, .ref (x + 205 + 3)), (6, .ref (x + 205 + 4)), (7, .ref (x + 205 + 5)), (10, vI r1), (11, vI x41), (13, vI x51)]) hC dL_would_231 (by decide) rfl ?_
                    refine s_iload hC dL_would_233 11 rfl ?_
                    refine s_istore (L' := [(9, vI x51), (8, vI x41), (0, .ref (x + 0)), (1, vI a1), (2, .ref (x + 205 + 0)), (3, .ref (x + 205 + 1)), (4, .ref (x + 205 + 2)), (5, .ref (x + 205 + 3)), (6, .ref (x + 205 + 4)), (7, .ref (x + 205 + 5)), (10, vI r1), (11, vI x41), (13, vI x51)]) hC dL_would_235 (by decide) rfl ?_
                    refine s_sub (L' := [(0, .ref (x + 0)), (1, vI a1), (2, .ref (x + 205 + 0)), (3, .ref (x + 205 + 1)), (4, .ref (x + 205 + 2)), (5, .ref (x + 205 + 3)), (6, .ref (x + 205 + 4)), (7, .ref (x + 205 + 5)), (8, vI x41), (9, vI x51), (10, vI r1), (11, vI x41)]) [2, 3, 4, 5, 6, 7, 8, 9, 1, 0, 10, 11] rfl ?_
                    exact hj57 x41 x51 hx41 hx51
                  · refine s_if_lt (tgt := 229) hC dL_would_216 (by decide) hx39 ?_ ?_
                    · refine s_sub (L' := [(0, .ref (x + 0)), (1, vI a1), (2, .ref (x + 205 + 0)), (3, .ref (x + 205 + 1)), (4, .ref (x + 205 + 2)), (5, .ref (x + 205 + 3)), (6, .ref (x + 205 + 4)), (7, .ref (x + 205 + 5)), (10, vI r1), (11, vI x41), (13, vI x51)]) [0, 1, 2, 3, 4, 5, 6, 7, 10, 11, 12] rfl ?_
                      exact hj63
                    · refine s_iload hC dL_would_219 12 rfl ?_
                      refine s_iload hC dL_would_221 9 rfl ?_
                      refine s_icmp_le (tgt := 229) hC dL_would_223 (by decide) hx51 hx40 ?_ ?_
                      · refine s_sub (L' := [(0, .ref (x + 0)), (1, vI a1), (2, .ref (x + 205 + 0)), (3, .ref (x + 205 + 1)), (4, .ref (x + 205 + 2)), (5, .ref (x + 205 + 3)), (6, .ref (x + 205 + 4)), (7, .ref (x + 205 + 5)), (10, vI r1), (11, vI x41), (13, vI x51)]) [0, 1, 2, 3, 4, 5, 6, 7, 10, 11, 12] rfl ?_
                        exact hj63
                      · refine s_sub (L' := [(0, .ref (x + 0)), (1, vI a1), (2, .ref (x + 205 + 0)), (3, .ref (x + 205 + 1)), (4, .ref (x + 205 + 2)), (5, .ref (x + 205 + 3)), (6, .ref (x + 205 + 4)), (7, .ref (x + 205 + 5)), (8, vI x39), (9, vI x40), (10, vI r1), (11, vI x41)]) [0, 1, 2, 3, 4, 5, 6, 7, 8, 9, 10, 11] rfl ?_
                        refine s_goto (tgt := 237) hC dL_would_226 (by decide) ?_
                        exact hj57 x39 x40 hx39 hx40
        · refine s_icmp_ne (tgt := 195) hC dL_would_81 (by decide) hx41 hr1 ?_ ?_
          · refine s_sub (L' := [(0, .ref (x + 0)), (1, vI a1), (2, .ref (x + 205 + 0)), (3, .ref (x + 205 + 1)), (4, .ref (x + 205 + 2)), (5, .ref (x + 205 + 3)), (6, .ref (x + 205 + 4)), (7, .ref (x + 205 + 5)), (8, vI x39), (9, vI x40), (10, vI r1), (11, vI x41), (12, vI r49), (13, vI x51)]) [1, 2, 3, 4, 5, 6, 7, 8, 9, 10, 11, 12, 13, 0] rfl ?_
            exact hj52 σ42 B43 N44 τ48 hσ42 hB43 hN44 hτ48
          · refine s_sub (L' := [(0, .ref (x + 0)), (1, vI a1), (2, .ref (x + 205 + 0)), (3, .ref (x + 205 + 1)), (4, .ref (x + 205 + 2)), (5, .ref (x + 205 + 3)), (6, .ref (x + 205 + 4)), (7, .ref (x + 205 + 5)), (8, vI x39), (9, vI x40), (10, vI r1), (11, vI x41), (12, vI r49), (13, vI x51)]) [1, 2, 3, 4, 5, 6, 7, 8, 9, 10, 11, 12, 13, 0] rfl ?_
            refine s_iconst hC dL_would_84 ?_
            refine s_istore (L' := [(14, vI 0), (0, .ref (x + 0)), (1, vI a1), (2, .ref (x + 205 + 0)), (3, .ref (x + 205 + 1)), (4, .ref (x + 205 + 2)), (5, .ref (x + 205 + 3)), (6, .ref (x + 205 + 4)), (7, .ref (x + 205 + 5)), (8, vI x39), (9, vI x40), (10, vI r1), (11, vI x41), (12, vI r49), (13, vI x51)]) hC dL_would_85 (by decide) rfl ?_
            refine s_iconst hC dL_would_87 ?_
            refine s_istore (L' := [(15, vI 0), (14, vI 0), (0, .ref (x + 0)), (1, vI a1), (2, .ref (x + 205 + 0)), (3, .ref (x + 205 + 1)), (4, .ref (x + 205 + 2)), (5, .ref (x + 205 + 3)), (6, .ref (x + 205 + 4)), (7, .ref (x + 205 + 5)), (8, vI x39), (9, vI x40), (10, vI r1), (11, vI x41), (12, vI r49), (13, vI x51)]) hC dL_would_88 (by decide) rfl ?_
            refine s_sub (L' := [(0, .ref (x + 0)), (1, vI a1), (2, .ref (x + 205 + 0)), (3, .ref (x + 205 + 1)), (4, .ref (x + 205 + 2)), (5, .ref (x + 205 + 3)), (6, .ref (x + 205 + 4)), (7, .ref (x + 205 + 5)), (8, vI x39), (9, vI x40), (10, vI r1), (11, vI x41), (12, vI r49), (13, vI x51), (14, vI 0), (15, vI 0)]) [2, 3, 4, 5, 6, 7, 8, 9, 10, 11, 12, 13, 14, 15, 1, 0] rfl ?_
            refine d_jp_I (0) (0) 129 (fun x65 => [(0, .ref (x + 0)), (1, vI a1), (2, .ref (x + 205 + 0)), (3, .ref (x + 205 + 1)), (4, .ref (x + 205 + 2)), (5, .ref (x + 205 + 3)), (6, .ref (x + 205 + 4)), (7, .ref (x + 205 + 5)), (8, vI x39), (9, vI x40), (10, vI r1), (11, vI x41), (12, vI r49), (13, vI x51), (14, vI x65)]) (fun x65 => []) (fun x65 hx65 => ?_) (fun j64 hj64 => ?_)
            · refine s_aload_n hC dL_would_129 rfl 0 rfl ?_
              refine s_iload hC dL_would_130 11 rfl ?_
              refine s_iconst hC dL_would_132 ?_
              refine u_up4 (V := fun σ B nb => VL G x σ B nb τ48) (As := [vI x41, vI 0]) (rest := []) (a := x + 0) (mc := 0) (ms := 0) hC hKA 2 (m_X4_ifPacked (x := x) (y0 := x + 212) (V := fun σ B nb => VL G x σ B nb τ48) (by omega) VL.wv hσ42 hB43 hN44 hx41 (inR_c _ rfl)) (fun q h => hAx q h) rfl (cb_of hC 2 q_c_yX4_ifPacked q_i_X4 q_m_L_99 rfl rfl dd_yX4_ifPacked ⟨Nat.le_of_ble_eq_true rfl, Nat.le_of_ble_eq_true rfl⟩) q_i_yX4_ifPacked q_x_yX4_ifPacked (s_recv hK (fun H h => (VL.wv.1 _ _ _ _ h).x) (by decide) o_X rfl) rfl (Nat.le_of_ble_eq_true rfl) dL_would_133 ⟨Nat.le_of_ble_eq_true rfl, Nat.le_of_ble_eq_true rfl⟩ (fun r66 σ67 B68 N69 hr66 hσ67 hB68 hN69 => ?_)
              refine s_iload hC dL_would_136 13 rfl ?_
              refine s_icmp_ne (tgt := 193) hC dL_would_138 (by decide) hr66 hx51 ?_ ?_
              · refine s_sub (L' := []) [] rfl ?_
                refine s_iconst hC dL_would_193 ?_
                exact s_zret hC hr (Or.inl rfl) dL_would_194 (fun H hH => ⟨rfl, (inR_c _ rfl), hσ67, hB68, hN69, hτ48, hH⟩)
              · refine s_aload_n hC dL_would_141 rfl 0 rfl ?_
                refine s_iload hC dL_would_142 11 rfl ?_
                refine s_iconst hC dL_would_144 ?_
                refine u_up4 (V := fun σ B nb => VL G x σ B nb τ48) (As := [vI x41, vI 1]) (rest := []) (a := x + 0) (mc := 0) (ms := 0) hC hKA 2 (m_X4_ifPacked (x := x) (y0 := x + 212) (V := fun σ B nb => VL G x σ B nb τ48) (by omega) VL.wv hσ67 hB68 hN69 hx41 (inR_c _ rfl)) (fun q h => hAx q h) rfl (cb_of hC 2 q_c_yX4_ifPacked q_i_X4 q_m_L_99 rfl rfl dd_yX4_ifPacked ⟨Nat.le_of_ble_eq_true rfl, Nat.le_of_ble_eq_true rfl⟩) q_i_yX4_ifPacked q_x_yX4_ifPacked (s_recv hK (fun H h => (VL.wv.1 _ _ _ _ h).x) (by decide) o_X rfl) rfl (Nat.le_of_ble_eq_true rfl) dL_would_145 ⟨Nat.le_of_ble_eq_true rfl, Nat.le_of_ble_eq_true rfl⟩ (fun r70 σ71 B72 N73 hr70 hσ71 hB72 hN73 => ?_)
                refine s_iload hC dL_would_148 12 rfl ?_
                refine d_jp_I (0) (0) 160 (fun x75 => [(0, .ref (x + 0)), (1, vI a1), (2, .ref (x + 205 + 0)), (3, .ref (x + 205 + 1)), (4, .ref (x + 205 + 2)), (5, .ref (x + 205 + 3)), (6, .ref (x + 205 + 4)), (7, .ref (x + 205 + 5)), (8, vI x39), (9, vI x40), (10, vI r1), (11, vI x41), (12, vI r49), (13, vI x51)]) (fun x75 => [vI x75, vI r70]) (fun x75 hx75 => ?_) (fun j74 hj74 => ?_)
                · refine s_icmp_ne (tgt := 193) hC dL_would_160 (by decide) hr70 hx75 ?_ ?_
                  · refine s_sub (L' := []) [] rfl ?_
                    refine s_iconst hC dL_would_193 ?_
                    exact s_zret hC hr (Or.inl rfl) dL_would_194 (fun H hH => ⟨rfl, (inR_c _ rfl), hσ71, hB72, hN73, hτ48, hH⟩)
                  · refine s_aload_n hC dL_would_163 rfl 0 rfl ?_
                    refine s_iload hC dL_would_164 11 rfl ?_
                    refine s_iconst hC dL_would_166 ?_
                    refine u_up4 (V := fun σ B nb => VL G x σ B nb τ48) (As := [vI x41, vI 2]) (rest := []) (a := x + 0) (mc := 0) (ms := 0) hC hKA 2 (m_X4_ifPacked (x := x) (y0 := x + 212) (V := fun σ B nb => VL G x σ B nb τ48) (by omega) VL.wv hσ71 hB72 hN73 hx41 (inR_c _ rfl)) (fun q h => hAx q h) rfl (cb_of hC 2 q_c_yX4_ifPacked q_i_X4 q_m_L_99 rfl rfl dd_yX4_ifPacked ⟨Nat.le_of_ble_eq_true rfl, Nat.le_of_ble_eq_true rfl⟩) q_i_yX4_ifPacked q_x_yX4_ifPacked (s_recv hK (fun H h => (VL.wv.1 _ _ _ _ h).x) (by decide) o_X rfl) rfl (Nat.le_of_ble_eq_true rfl) dL_would_167 ⟨Nat.le_of_ble_eq_true rfl, Nat.le_of_ble_eq_true rfl⟩ (fun r76 σ77 B78 N79 hr76 hσ77 hB78 hN79 => ?_)
                    refine s_iload hC dL_would_170 12 rfl ?_
                    refine d_jp_I (0) (0) 190 (fun x81 => [(0, .ref (x + 0)), (1, vI a1), (2, .ref (x + 205 + 0)), (3, .ref (x + 205 + 1)), (4, .ref (x + 205 + 2)), (5, .ref (x + 205 + 3)), (6, .ref (x + 205 + 4)), (7, .ref (x + 205 + 5)), (8, vI x39), (9, vI x40), (10, vI r1), (11, vI x41), (12, vI r49), (13, vI x51)]) (fun x81 => [vI x81, vI r76]) (fun x81 hx81 => ?_) (fun j80 hj80 => ?_)
                    · refine s_icmp_eq (tgt := 195) hC dL_would_190 (by decide) hr76 hx81 ?_ ?_
                      · exact hj52 σ77 B78 N79 τ48 hσ77 hB78 hN79 hτ48
                      · refine s_sub (L' := []) [] rfl ?_
                        refine s_iconst hC dL_would_193 ?_
                        exact s_zret hC hr (Or.inl rfl) dL_would_194 (fun H hH => ⟨rfl, (inR_c _ rfl), hσ77, hB78, hN79, hτ48, hH⟩)
                    · refine s_if_eq (tgt := 188) hC dL_would_172 (by decide) hr49 ?_ ?_
                      · refine s_iload hC dL_would_188 13 rfl ?_
                        exact hj80 x51 hx51
                      · refine s_iconst hC dL_would_175 ?_
                        refine s_aload hC dL_would_176 7 rfl ?_
                        refine s_aload hC dL_would_178 5 rfl ?_
                        refine s_iconst hC dL_would_180 ?_
                        refine s_iaload (b := x + 205) hC hK (fun H h => h.2) hτ48 (by decide) a_Tab_3 dL_would_181 (fun v82 hv82 => ?_)
                        refine s_callS_P (As := [vI 2, .ref (x + 205 + 5), vI v82]) (rest := [vI r76]) hC hKA 3 (m_L_kinds (b := x + 205) (fun H h => h.2) hτ48 (inR_c _ rfl) (by decide) a_Tab_5 hv82) rfl (cb_of hC 3 q_c_yL_kinds q_i_L q_m_L_81 rfl rfl dd_yL_kinds ⟨Nat.le_of_ble_eq_true rfl, Nat.le_of_ble_eq_true rfl⟩) q_s_yL_kinds rfl (Nat.le_of_ble_eq_true rfl) dL_would_182 ⟨Nat.le_of_ble_eq_true rfl, Nat.le_of_ble_eq_true rfl⟩ (fun r83 hr83 => ?_)
                        refine s_goto (tgt := 190) hC dL_would_185 (by decide) ?_
                        exact hj80 r83 hr83
                · refine s_if_eq (tgt := 158) hC dL_would_150 (by decide) hr49 ?_ ?_
                  · refine s_sub (L' := [(0, .ref (x + 0)), (1, vI a1), (2, .ref (x + 205 + 0)), (3, .ref (x + 205 + 1)), (4, .ref (x + 205 + 2)), (5, .ref (x + 205 + 3)), (6, .ref (x + 205 + 4)), (7, .ref (x + 205 + 5)), (8, vI x39), (9, vI x40), (10, vI r1), (11, vI x41), (12, vI r49), (13, vI x51)]) [0, 1, 2, 3, 4, 5, 6, 7, 8, 9, 10, 11, 12, 13] rfl ?_
                    refine s_iload hC dL_would_158 13 rfl ?_
                    exact hj74 x51 hx51
                  · refine s_iload hC dL_would_153 14 rfl ?_
                    refine s_goto (tgt := 160) hC dL_would_155 (by decide) ?_
                    refine s_sub (L' := [(0, .ref (x + 0)), (1, vI a1), (2, .ref (x + 205 + 0)), (3, .ref (x + 205 + 1)), (4, .ref (x + 205 + 2)), (5, .ref (x + 205 + 3)), (6, .ref (x + 205 + 4)), (7, .ref (x + 205 + 5)), (8, vI x39), (9, vI x40), (10, vI r1), (11, vI x41), (12, vI r49), (13, vI x51)]) [0, 1, 2, 3, 4, 5, 6, 7, 8, 9, 10, 11, 12, 13] rfl ?_
                    exact hj74 x65 hx65
            · refine d_lp_II (F := g_L_would_L90 τ48 j64) 90 (fun x84 x85 => [(0, .ref (x + 0)), (1, vI a1), (2, .ref (x + 205 + 0)), (3, .ref (x + 205 + 1)), (4, .ref (x + 205 + 2)), (5, .ref (x + 205 + 3)), (6, .ref (x + 205 + 4)), (7, .ref (x + 205 + 5)), (8, vI x39), (9, vI x40), (10, vI r1), (11, vI x41), (12, vI r49), (13, vI x51), (14, vI x84), (15, vI x85)]) (fun _ _ => rfl) (fun n ih90 x84 x85 hx84 hx85 => ?_) fu 0 0 (inR_c _ rfl) (inR_c _ rfl)
              rw [g_L_would_L90]
              refine s_iload hC dL_would_90 15 rfl ?_
              refine s_bipush hC dL_would_92 (by decide) ?_
              refine s_icmp_ge (tgt := 129) hC dL_would_94 (by decide) hx85 (inR_c _ rfl) ?_ ?_
              · refine s_sub (L' := [(0, .ref (x + 0)), (1, vI a1), (2, .ref (x + 205 + 0)), (3, .ref (x + 205 + 1)), (4, .ref (x + 205 + 2)), (5, .ref (x + 205 + 3)), (6, .ref (x + 205 + 4)), (7, .ref (x + 205 + 5)), (8, vI x39), (9, vI x40), (10, vI r1), (11, vI x41), (12, vI r49), (13, vI x51), (14, vI x84)]) [0, 1, 2, 3, 4, 5, 6, 7, 8, 9, 10, 11, 12, 13, 14] rfl ?_
                exact hj64 x84 hx84
              · refine s_iload hC dL_would_97 14 rfl ?_
                refine s_iload hC dL_would_99 15 rfl ?_
                refine s_aload hC dL_would_101 7 rfl ?_
                refine s_aload hC dL_would_103 5 rfl ?_
                refine s_iconst hC dL_would_105 ?_
                refine s_iaload (b := x + 205) hC hK (fun H h => h.2) hτ48 (by decide) a_Tab_3 dL_would_106 (fun v86 hv86 => ?_)
                refine s_callS_P (As := [vI x85, .ref (x + 205 + 5), vI v86]) (rest := [vI x84]) hC hKA 3 (m_L_free (b := x + 205) (fun H h => h.2) hτ48 hx85 (by decide) a_Tab_5 hv86) rfl (cb_of hC 3 q_c_yL_free q_i_L q_m_L_16 rfl rfl dd_yL_free ⟨Nat.le_of_ble_eq_true rfl, Nat.le_of_ble_eq_true rfl⟩) q_s_yL_free rfl (Nat.le_of_ble_eq_true rfl) dL_would_107 ⟨Nat.le_of_ble_eq_true rfl, Nat.le_of_ble_eq_true rfl⟩ (fun r87 hr87 => ?_)
                refine s_bipush hC dL_would_110 (by decide) ?_
                refine d_jp_I (0) (0) 120 (fun x89 => [(0, .ref (x + 0)), (1, vI a1), (2, .ref (x + 205 + 0)), (3, .ref (x + 205 + 1)), (4, .ref (x + 205 + 2)), (5, .ref (x + 205 + 3)), (6, .ref (x + 205 + 4)), (7, .ref (x + 205 + 5)), (8, vI x39), (9, vI x40), (10, vI r1), (11, vI x41), (12, vI r49), (13, vI x51), (15, vI x85)]) (fun x89 => [vI x89, vI x84]) (fun x89 hx89 => ?_) (fun j88 hj88 => ?_)
                · refine s_iadd hC dL_would_120 ?_
                  refine s_ck0 (fun v90 hv90 => ?_)
                  refine s_istore (L' := [(14, vI v90), (0, .ref (x + 0)), (1, vI a1), (2, .ref (x + 205 + 0)), (3, .ref (x + 205 + 1)), (4, .ref (x + 205 + 2)), (5, .ref (x + 205 + 3)), (6, .ref (x + 205 + 4)), (7, .ref (x + 205 + 5)), (8, vI x39), (9, vI x40), (10, vI r1), (11, vI x41), (12, vI r49), (13, vI x51), (15, vI x85)]) hC dL_would_121 (by decide) rfl ?_
                  refine s_iincK hC dL_would_123 15 rfl (by decide) (fun v91 => [(15, vI v91), (14, vI v90), (0, .ref (x + 0)), (1, vI a1), (2, .ref (x + 205 + 0)), (3, .ref (x + 205 + 1)), (4, .ref (x + 205 + 2)), (5, .ref (x + 205 + 3)), (6, .ref (x + 205 + 4)), (7, .ref (x + 205 + 5)), (8, vI x39), (9, vI x40), (10, vI r1), (11, vI x41), (12, vI r49), (13, vI x51)]) (fun _ => rfl) (fun v91 hv91 => ?_)
                  refine s_goto (tgt := 90) hC dL_would_126 (by decide) ?_
                  refine s_sub (L' := [(0, .ref (x + 0)), (1, vI a1), (2, .ref (x + 205 + 0)), (3, .ref (x + 205 + 1)), (4, .ref (x + 205 + 2)), (5, .ref (x + 205 + 3)), (6, .ref (x + 205 + 4)), (7, .ref (x + 205 + 5)), (8, vI x39), (9, vI x40), (10, vI r1), (11, vI x41), (12, vI r49), (13, vI x51), (14, vI v90), (15, vI v91)]) [2, 3, 4, 5, 6, 7, 8, 9, 10, 11, 12, 13, 14, 15, 1, 0] rfl ?_
                  exact ih90 v90 v91 hv90 hv91
                · refine s_icmp_ge (tgt := 119) hC dL_would_112 (by decide) hr87 (inR_c _ rfl) ?_ ?_
                  · refine s_sub (L' := [(0, .ref (x + 0)), (1, vI a1), (2, .ref (x + 205 + 0)), (3, .ref (x + 205 + 1)), (4, .ref (x + 205 + 2)), (5, .ref (x + 205 + 3)), (6, .ref (x + 205 + 4)), (7, .ref (x + 205 + 5)), (8, vI x39), (9, vI x40), (10, vI r1), (11, vI x41), (12, vI r49), (13, vI x51), (15, vI x85)]) [0, 1, 2, 3, 4, 5, 6, 7, 8, 9, 10, 11, 12, 13, 15] rfl ?_
                    refine s_iconst hC dL_would_119 ?_
                    exact hj88 0 (inR_c _ rfl)
                  · refine s_sub (L' := [(0, .ref (x + 0)), (1, vI a1), (2, .ref (x + 205 + 0)), (3, .ref (x + 205 + 1)), (4, .ref (x + 205 + 2)), (5, .ref (x + 205 + 3)), (6, .ref (x + 205 + 4)), (7, .ref (x + 205 + 5)), (8, vI x39), (9, vI x40), (10, vI r1), (11, vI x41), (12, vI r49), (13, vI x51), (15, vI x85)]) [0, 1, 2, 3, 4, 5, 6, 7, 8, 9, 10, 11, 12, 13, 15] rfl ?_
                    refine s_iconst hC dL_would_115 ?_
                    refine s_goto (tgt := 120) hC dL_would_116 (by decide) ?_
                    exact hj88 1 (inR_c _ rfl)
      · refine s_if_eq (tgt := 73) hC dL_would_56 (by decide) hr49 ?_ ?_
        · refine s_sub (L' := [(0, .ref (x + 0)), (1, vI a1), (2, .ref (x + 205 + 0)), (3, .ref (x + 205 + 1)), (4, .ref (x + 205 + 2)), (5, .ref (x + 205 + 3)), (6, .ref (x + 205 + 4)), (7, .ref (x + 205 + 5)), (8, vI x39), (9, vI x40), (10, vI r1), (11, vI x41), (12, vI r49)]) [1, 2, 3, 4, 5, 6, 7, 8, 9, 10, 11, 12, 0] rfl ?_
          refine s_bipush hC dL_would_73 (by decide) ?_
          exact hj50 ((-5)) (inR_c _ rfl)
        · refine s_sub (L' := [(0, .ref (x + 0)), (1, vI a1), (2, .ref (x + 205 + 0)), (3, .ref (x + 205 + 1)), (4, .ref (x + 205 + 2)), (5, .ref (x + 205 + 3)), (6, .ref (x + 205 + 4)), (7, .ref (x + 205 + 5)), (8, vI x39), (9, vI x40), (10, vI r1), (11, vI x41), (12, vI r49)]) [1, 2, 3, 4, 5, 6, 7, 8, 9, 10, 11, 12, 0] rfl ?_
          refine s_aload hC dL_would_59 6 rfl ?_
          refine s_aload hC dL_would_61 7 rfl ?_
          refine s_aload hC dL_would_63 5 rfl ?_
          refine s_iconst hC dL_would_65 ?_
          refine s_iaload (b := x + 205) hC hK (fun H h => h.2) hτ48 (by decide) a_Tab_3 dL_would_66 (fun v92 hv92 => ?_)
          refine s_callS_P (As := [.ref (x + 205 + 4), .ref (x + 205 + 5), vI v92]) (rest := []) hC hKA 3 (m_L_costs (b := x + 205) (fun H h => h.2) hτ48 (by decide) a_Tab_4 (by decide) a_Tab_5 hv92) rfl (cb_of hC 3 q_c_yL_costs q_i_L q_m_L_84 rfl rfl dd_yL_costs ⟨Nat.le_of_ble_eq_true rfl, Nat.le_of_ble_eq_true rfl⟩) q_s_yL_costs rfl (Nat.le_of_ble_eq_true rfl) dL_would_67 ⟨Nat.le_of_ble_eq_true rfl, Nat.le_of_ble_eq_true rfl⟩ (fun r93 hr93 => ?_)
          refine s_goto (tgt := 75) hC dL_would_70 (by decide) ?_
          exact hj50 r93 hr93
set_option maxHeartbeats 16000000 in
set_option maxRecDepth 100000 in
theorem m_law {p : Program} {l : Launch} {e : Env} {s : State} {m : MethodId} {below : List Frame} {meth : Method} {c : Code} {bs Ls : Nat} {xs : Nat → Int32} {G : Gt} {x : Nat} (hC : Cx p s m #[Value.ref bs] meth c code 21 RL) (hKA : KA G s) (hr : meth.sig.returnType = ret) (hX : va_X bs Ls xs s s.heap) (hbl : bs < s.heap.size) (hLs : Ls ≤ 2048) (hx : s.heap.size ≤ x) {σ τ : Blk} {B : Nat → Blk} {nb : Nat} (hσ : Rg σ) (hB : RgB B) (hn : 2 ≤ nb) (hτ : Rg τ) :
    Sim p l e room_1 s m #[Value.ref bs] below meth c 21 (fun q => s.heap.size ≤ q) (QL below bs s) 300 8500 (VL G x σ B nb τ) 46 [(0, .ref bs), (1, .ref (x + 0)), (2, .ref (x + 205 + 0)), (3, .ref (x + 205 + 1)), (4, .ref (x + 205 + 2)), (5, .ref (x + 205 + 3)), (6, .ref (x + 205 + 4)), (7, .ref (x + 205 + 5)), (8, .ref (x + 205 + 6))] [] (g_L_law xs Ls σ B nb τ) := by
  have hK := hKA.1
  have hbA : ¬ (fun q : Nat => s.heap.size ≤ q) bs := Nat.not_le.mpr hbl
  have hAx : ∀ q, Rx x (x + 212) q → s.heap.size ≤ q := fun q h => by
    unfold Rx at h
    omega
  have hAm : ∀ q, Ab (x + 205) 7 q → s.heap.size ≤ q := fun q h => by
    have := h.1
    omega
  have hAd : ∀ q, x ≤ q → s.heap.size ≤ q := fun q h => by omega
  unfold g_L_law
  refine s_aload_n hC dL_law_46 rfl 2 rfl ?_
  refine s_iconst hC dL_law_47 ?_
  refine s_bipush hC dL_law_48 (by decide) ?_
  refine s_iastore (b := x + 205) (J := fun τ => VL G x σ B nb τ) hC hK VL.wd (fun q h => hAm q h) hτ (inR_c _ rfl) (by decide) a_Tab_0 dL_law_50 (fun τ1 hτ1 => ?_)
  refine s_aload_n hC dL_law_51 rfl 2 rfl ?_
  refine s_iconst hC dL_law_52 ?_
  refine s_bipush hC dL_law_53 (by decide) ?_
  refine s_iastore (b := x + 205) (J := fun τ => VL G x σ B nb τ) hC hK VL.wd (fun q h => hAm q h) hτ1 (inR_c _ rfl) (by decide) a_Tab_0 dL_law_55 (fun τ2 hτ2 => ?_)
  refine s_iconst hC dL_law_56 ?_
  refine s_istore (L' := [(9, vI 0), (0, .ref bs), (1, .ref (x + 0)), (2, .ref (x + 205 + 0)), (3, .ref (x + 205 + 1)), (4, .ref (x + 205 + 2)), (5, .ref (x + 205 + 3)), (6, .ref (x + 205 + 4)), (7, .ref (x + 205 + 5)), (8, .ref (x + 205 + 6))]) hC dL_law_57 (by decide) rfl ?_
  refine s_sub (L' := [(0, .ref bs), (1, .ref (x + 0)), (2, .ref (x + 205 + 0)), (3, .ref (x + 205 + 1)), (4, .ref (x + 205 + 2)), (5, .ref (x + 205 + 3)), (6, .ref (x + 205 + 4)), (7, .ref (x + 205 + 5)), (8, .ref (x + 205 + 6)), (9, vI 0)]) [1, 2, 3, 4, 5, 6, 7, 8, 9, 0] rfl ?_
  refine d_jp_D (V := VL G x) (300) (8500) 81 ([(0, .ref bs), (1, .ref (x + 0)), (2, .ref (x + 205 + 0)), (3, .ref (x + 205 + 1)), (4, .ref (x + 205 + 2)), (5, .ref (x + 205 + 3)), (6, .ref (x + 205 + 4)), (7, .ref (x + 205 + 5)), (8, .ref (x + 205 + 6))]) ([]) (fun σ4 B5 N6 τ7 hσ4 hB5 hN6 hτ7 => ?_) (fun j3 hj3 => ?_)
  · refine s_iconst hC dL_law_81 ?_
    refine s_istore (L' := [(9, vI 0), (0, .ref bs), (1, .ref (x + 0)), (2, .ref (x + 205 + 0)), (3, .ref (x + 205 + 1)), (4, .ref (x + 205 + 2)), (5, .ref (x + 205 + 3)), (6, .ref (x + 205 + 4)), (7, .ref (x + 205 + 5)), (8, .ref (x + 205 + 6))]) hC dL_law_82 (by decide) rfl ?_
    refine s_sub (L' := [(0, .ref bs), (1, .ref (x + 0)), (2, .ref (x + 205 + 0)), (3, .ref (x + 205 + 1)), (4, .ref (x + 205 + 2)), (5, .ref (x + 205 + 3)), (6, .ref (x + 205 + 4)), (7, .ref (x + 205 + 5)), (8, .ref (x + 205 + 6)), (9, vI 0)]) [1, 2, 3, 4, 5, 6, 7, 8, 9, 0] rfl ?_
    refine s_widen (k' := 15100 - 30 * 490) (n' := 603000 - 30 * 19800) (by omega) (by omega) ?_
    refine d_rn_ID (V := VL G x) (F := g_L_law_L84 xs Ls) (15100) (603000) (490) (19800) 84 (fun x8 => [(0, .ref bs), (1, .ref (x + 0)), (2, .ref (x + 205 + 0)), (3, .ref (x + 205 + 1)), (4, .ref (x + 205 + 2)), (5, .ref (x + 205 + 3)), (6, .ref (x + 205 + 4)), (7, .ref (x + 205 + 5)), (8, .ref (x + 205 + 6)), (9, vI x8)]) (fun _ _ _ _ _ => rfl) (fun N ih84 hN x8 σ9 B10 N11 τ12 hx8 hσ9 hB10 hN11 hτ12 => ?_) 30 (Nat.le_refl _) 0 σ4 B5 N6 τ7 (inR_c _ rfl) hσ4 hB5 hN6 hτ7
    rw [g_L_law_L84]
    refine s_iload hC dL_law_84 9 rfl ?_
    refine s_bipush hC dL_law_86 (by decide) ?_
    refine s_icmp_ge (tgt := 965) hC dL_law_88 (by decide) hx8 (inR_c _ rfl) ?_ ?_
    · refine s_sub (L' := []) [] rfl ?_
      refine s_iconst hC dL_law_965 ?_
      exact l_ret1 hC hr (fun _ h => h) (by omega) (by omega) dL_law_966
    · refine s_aload_n hC dL_law_91 rfl 0 rfl ?_
      refine s_iconst hC dL_law_92 ?_
      refine s_iload hC dL_law_93 9 rfl ?_
      refine s_imul hC dL_law_95 ?_
      refine s_ck0 (fun v13 hv13 => ?_)
      refine l_cell (rest := []) hC hKA hX hbl hbA hLs hv13 q_m_L_110 (Nat.le_of_ble_eq_true rfl) dL_law_96 ⟨by show _ ≤ 600000; omega, by show _ ≤ 7302250; omega⟩ ⟨by decide, by decide⟩ (fun v14 hv14 => ?_)
      refine s_istore (L' := [(10, vI v14), (0, .ref bs), (1, .ref (x + 0)), (2, .ref (x + 205 + 0)), (3, .ref (x + 205 + 1)), (4, .ref (x + 205 + 2)), (5, .ref (x + 205 + 3)), (6, .ref (x + 205 + 4)), (7, .ref (x + 205 + 5)), (8, .ref (x + 205 + 6)), (9, vI x8)]) hC dL_law_99 (by decide) rfl ?_
      refine s_aload_n hC dL_law_101 rfl 1 rfl ?_
      refine s_iconst hC dL_law_102 ?_
      refine s_iload hC dL_law_103 10 rfl ?_
      refine s_imul hC dL_law_105 ?_
      refine s_iconst hC dL_law_106 ?_
      refine s_iadd hC dL_law_107 ?_
      refine s_ck0 (fun v15 hv15 => ?_)
      refine l_cell (rest := []) hC hKA hX hbl hbA hLs hv15 q_m_L_110 (Nat.le_of_ble_eq_true rfl) dL_law_108 ⟨by show _ ≤ 600000; omega, by show _ ≤ 7302250; omega⟩ ⟨by decide, by decide⟩ (fun v16 hv16 => ?_)
      refine s_istore (L' := [(11, vI v16), (10, vI v14), (0, .ref bs), (1, .ref (x + 0)), (2, .ref (x + 205 + 0)), (3, .ref (x + 205 + 1)), (4, .ref (x + 205 + 2)), (5, .ref (x + 205 + 3)), (6, .ref (x + 205 + 4)), (7, .ref (x + 205 + 5)), (8, .ref (x + 205 + 6)), (9, vI x8)]) hC dL_law_111 (by decide) rfl ?_
      refine s_iload hC dL_law_113 11 rfl ?_
      refine s_iconst hC dL_law_115 ?_
      refine d_jp_I (15100 - (N + 1) * 490 + 0) (603000 - (N + 1) * 19800 + 0) 130 (fun x18 => [(0, .ref bs), (1, .ref (x + 0)), (2, .ref (x + 205 + 0)), (3, .ref (x + 205 + 1)), (4, .ref (x + 205 + 2)), (5, .ref (x + 205 + 3)), (6, .ref (x + 205 + 4)), (7, .ref (x + 205 + 5)), (8, .ref (x + 205 + 6)), (9, vI x8), (10, vI v14), (11, vI v16)]) (fun x18 => [vI x18]) (fun x18 hx18 => ?_) (fun j17 hj17 => ?_)
      · refine s_istore (L' := [(12, vI x18), (0, .ref bs), (1, .ref (x + 0)), (2, .ref (x + 205 + 0)), (3, .ref (x + 205 + 1)), (4, .ref (x + 205 + 2)), (5, .ref (x + 205 + 3)), (6, .ref (x + 205 + 4)), (7, .ref (x + 205 + 5)), (8, .ref (x + 205 + 6)), (9, vI x8), (10, vI v14), (11, vI v16)]) hC dL_law_130 (by decide) rfl ?_
        refine s_iload hC dL_law_132 11 rfl ?_
        refine s_iconst hC dL_law_134 ?_
        refine s_ishr hC dL_law_135 ?_
        refine s_bipush hC dL_law_136 (by decide) ?_
        refine s_callS_P (As := [vI (ishr v14 4), vI 8]) (rest := []) hC hKA 2 (m_L_low (I := (VL G x σ9 B10 N11 τ12)) (i32_in _) (inR_c _ rfl)) rfl (cb_of hC 2 q_c_yL_low q_i_L q_m_L_88 rfl rfl dd_yL_low ⟨Nat.le_of_ble_eq_true rfl, Nat.le_of_ble_eq_true rfl⟩) q_s_yL_low rfl (Nat.le_of_ble_eq_true rfl) dL_law_138 ⟨by show _ ≤ 600000; omega, by show _ ≤ 7302250; omega⟩ (fun r19 hr19 => ?_)
        refine s_bipush hC dL_law_141 (by decide) ?_
        refine s_imul hC dL_law_143 ?_
        refine s_ck0 (fun v20 hv20 => ?_)
        refine s_istore (L' := [(13, vI v20), (12, vI x18), (0, .ref bs), (1, .ref (x + 0)), (2, .ref (x + 205 + 0)), (3, .ref (x + 205 + 1)), (4, .ref (x + 205 + 2)), (5, .ref (x + 205 + 3)), (6, .ref (x + 205 + 4)), (7, .ref (x + 205 + 5)), (8, .ref (x + 205 + 6)), (9, vI x8), (10, vI v14), (11, vI v16)]) hC dL_law_144 (by decide) rfl ?_
        refine s_iload hC dL_law_146 0 rfl ?_
        refine s_aload_n hC dL_law_148 rfl 5 rfl ?_
        refine s_callS_P (As := [vI v20, .ref (x + 205 + 1)]) (rest := []) hC hKA 2 (m_L_rowOf (b := x + 205) (fun H h => h.2) hτ12 hv20 (by decide) a_Tab_1) rfl (cb_of hC 2 q_c_yL_rowOf q_i_L q_m_L_38 rfl rfl dd_yL_rowOf ⟨Nat.le_of_ble_eq_true rfl, Nat.le_of_ble_eq_true rfl⟩) q_s_yL_rowOf rfl (Nat.le_of_ble_eq_true rfl) dL_law_149 ⟨by show _ ≤ 600000; omega, by show _ ≤ 7302250; omega⟩ (fun r21 hr21 => ?_)
        refine s_istore (L' := [(14, vI r21), (13, vI v20), (12, vI x18), (0, .ref bs), (1, .ref (x + 0)), (2, .ref (x + 205 + 0)), (3, .ref (x + 205 + 1)), (4, .ref (x + 205 + 2)), (5, .ref (x + 205 + 3)), (6, .ref (x + 205 + 4)), (7, .ref (x + 205 + 5)), (8, .ref (x + 205 + 6)), (9, vI x8), (10, vI v14), (11, vI v16)]) hC dL_law_152 (by decide) rfl ?_
        refine s_iload hC dL_law_154 2 rfl ?_
        refine s_iconst hC dL_law_156 ?_
        refine d_jp_D (V := VL G x) (15100 - (N + 1) * 490 + 490) (603000 - (N + 1) * 19800 + 19800) 959 ([(0, .ref bs), (1, .ref (x + 0)), (2, .ref (x + 205 + 0)), (3, .ref (x + 205 + 1)), (4, .ref (x + 205 + 2)), (5, .ref (x + 205 + 3)), (6, .ref (x + 205 + 4)), (7, .ref (x + 205 + 5)), (8, .ref (x + 205 + 6)), (9, vI x8)]) ([]) (fun σ23 B24 N25 τ26 hσ23 hB24 hN25 hτ26 => ?_) (fun j22 hj22 => ?_)
        · refine s_iincK hC dL_law_959 9 rfl (by decide) (fun v27 => [(9, vI v27), (0, .ref bs), (1, .ref (x + 0)), (2, .ref (x + 205 + 0)), (3, .ref (x + 205 + 1)), (4, .ref (x + 205 + 2)), (5, .ref (x + 205 + 3)), (6, .ref (x + 205 + 4)), (7, .ref (x + 205 + 5)), (8, .ref (x + 205 + 6))]) (fun _ => rfl) (fun v27 hv27 => ?_)
          refine s_goto (tgt := 84) hC dL_law_962 (by decide) ?_
          refine s_sub (L' := [(0, .ref bs), (1, .ref (x + 0)), (2, .ref (x + 205 + 0)), (3, .ref (x + 205 + 1)), (4, .ref (x + 205 + 2)), (5, .ref (x + 205 + 3)), (6, .ref (x + 205 + 4)), (7, .ref (x + 205 + 5)), (8, .ref (x + 205 + 6)), (9, vI v27)]) [1, 2, 3, 4, 5, 6, 7, 8, 9, 0] rfl ?_
          refine s_widen (k' := 15100 - N * 490) (n' := 603000 - N * 19800) (by omega) (by omega) ?_
          exact ih84 v27 σ23 B24 N25 τ26 hv27 hσ23 hB24 hN25 hτ26
        · refine d_jp_D (V := VL G x) (15100 - (N + 1) * 490 + 490) (603000 - (N + 1) * 19800 + 19800) 911 ([(0, .ref bs), (1, .ref (x + 0)), (2, .ref (x + 205 + 0)), (3, .ref (x + 205 + 1)), (4, .ref (x + 205 + 2)), (5, .ref (x + 205 + 3)), (6, .ref (x + 205 + 4)), (7, .ref (x + 205 + 5)), (8, .ref (x + 205 + 6)), (9, vI x8), (11, vI v16)]) ([]) (fun σ29 B30 N31 τ32 hσ29 hB30 hN31 hτ32 => ?_) (fun j28 hj28 => ?_)
          · refine s_aload_n hC dL_law_911 rfl 1 rfl ?_
            refine s_aload_n hC dL_law_912 rfl 2 rfl ?_
            refine s_aload_n hC dL_law_913 rfl 3 rfl ?_
            refine s_aload hC dL_law_914 4 rfl ?_
            refine s_aload hC dL_law_916 8 rfl ?_
            refine s_callS_P (As := [.ref (x + 0), .ref (x + 205 + 0), .ref (x + 205 + 1), .ref (x + 205 + 2), .ref (x + 205 + 6)]) (rest := []) hC hKA 5 (m_L_same (I := VL G x σ29 B30 N31 τ32) (fun H h => h) hσ29 hB30 hN31 hτ32) rfl (cb_of hC 5 q_c_yL_same q_i_L q_m_L_136 rfl rfl dd_yL_same ⟨Nat.le_of_ble_eq_true rfl, Nat.le_of_ble_eq_true rfl⟩) q_s_yL_same rfl (Nat.le_of_ble_eq_true rfl) dL_law_918 ⟨by show _ ≤ 600000; omega, by show _ ≤ 7302250; omega⟩ (fun r33 hr33 => ?_)
            refine s_if_eq (tgt := 957) hC dL_law_921 (by decide) hr33 ?_ ?_
            · refine s_sub (L' := []) [] rfl ?_
              refine s_iconst hC dL_law_957 ?_
              exact l_ret0
            · refine s_iload hC dL_law_924 10 rfl ?_
              refine s_bipush hC dL_law_926 (by decide) ?_
              refine s_ishr hC dL_law_928 ?_
              refine s_iconst hC dL_law_929 ?_
              refine s_callS_P (As := [vI (ishr v16 12), vI 3]) (rest := []) hC hKA 2 (m_L_low (I := (VL G x σ29 B30 N31 τ32)) (i32_in _) (inR_c _ rfl)) rfl (cb_of hC 2 q_c_yL_low q_i_L q_m_L_88 rfl rfl dd_yL_low ⟨Nat.le_of_ble_eq_true rfl, Nat.le_of_ble_eq_true rfl⟩) q_s_yL_low rfl (Nat.le_of_ble_eq_true rfl) dL_law_930 ⟨by show _ ≤ 600000; omega, by show _ ≤ 7302250; omega⟩ (fun r34 hr34 => ?_)
              refine s_if_ne (tgt := 959) hC dL_law_933 (by decide) hr34 ?_ ?_
              · refine s_sub (L' := [(0, .ref bs), (1, .ref (x + 0)), (2, .ref (x + 205 + 0)), (3, .ref (x + 205 + 1)), (4, .ref (x + 205 + 2)), (5, .ref (x + 205 + 3)), (6, .ref (x + 205 + 4)), (7, .ref (x + 205 + 5)), (8, .ref (x + 205 + 6)), (9, vI x8)]) [0, 1, 2, 3, 4, 5, 6, 7, 8, 9] rfl ?_
                exact hj22 σ29 B30 N31 τ32 hσ29 hB30 hN31 hτ32
              · refine s_aload_n hC dL_law_936 rfl 1 rfl ?_
                refine s_iload hC dL_law_937 10 rfl ?_
                refine s_iconst hC dL_law_939 ?_
                refine s_ishr hC dL_law_940 ?_
                refine s_aload_n hC dL_law_941 rfl 2 rfl ?_
                refine s_aload_n hC dL_law_942 rfl 3 rfl ?_
                refine s_aload hC dL_law_943 4 rfl ?_
                refine s_aload hC dL_law_945 5 rfl ?_
                refine s_aload hC dL_law_947 6 rfl ?_
                refine s_aload hC dL_law_949 7 rfl ?_
                refine l_callD (As := [.ref (x + 0), vI (ishr v16 3), .ref (x + 205 + 0), .ref (x + 205 + 1), .ref (x + 205 + 2), .ref (x + 205 + 3), .ref (x + 205 + 4), .ref (x + 205 + 5)]) (rest := []) hC hKA 8 (m_L_would hσ29 hB30 hN31 hτ32 (i32_in _)) (fun q h => hAd q h) rfl (cb_of hC 8 q_c_yL_would q_i_L q_m_L_140 rfl rfl dd_yL_would ⟨Nat.le_of_ble_eq_true rfl, Nat.le_of_ble_eq_true rfl⟩) q_s_yL_would rfl (Nat.le_of_ble_eq_true rfl) dL_law_951 ⟨by show _ ≤ 600000; omega, by show _ ≤ 7302250; omega⟩ (fun r35 σ36 B37 N38 τ39 hr35 hσ36 hB37 hN38 hτ39 => ?_)
                refine s_if_ne (tgt := 959) hC dL_law_954 (by decide) hr35 ?_ ?_
                · refine s_sub (L' := [(0, .ref bs), (1, .ref (x + 0)), (2, .ref (x + 205 + 0)), (3, .ref (x + 205 + 1)), (4, .ref (x + 205 + 2)), (5, .ref (x + 205 + 3)), (6, .ref (x + 205 + 4)), (7, .ref (x + 205 + 5)), (8, .ref (x + 205 + 6)), (9, vI x8)]) [0, 1, 2, 3, 4, 5, 6, 7, 8, 9] rfl ?_
                  exact hj22 σ36 B37 N38 τ39 hσ36 hB37 hN38 hτ39
                · refine s_sub (L' := []) [] rfl ?_
                  refine s_iconst hC dL_law_957 ?_
                  exact l_ret0
          · refine s_icmp_ge (tgt := 496) hC dL_law_157 (by decide) hx18 (inR_c _ rfl) ?_ ?_
            · refine s_sub (L' := [(0, .ref bs), (1, .ref (x + 0)), (2, .ref (x + 205 + 0)), (3, .ref (x + 205 + 1)), (4, .ref (x + 205 + 2)), (5, .ref (x + 205 + 3)), (6, .ref (x + 205 + 4)), (7, .ref (x + 205 + 5)), (8, .ref (x + 205 + 6)), (9, vI x8), (11, vI v16), (12, vI x18), (13, vI v20), (14, vI r21)]) [3, 4, 5, 6, 7, 8, 9, 10, 11, 12, 14, 2, 1, 0] rfl ?_
              refine s_iload hC dL_law_496 11 rfl ?_
              refine s_iconst hC dL_law_498 ?_
              refine d_jp_ (15100 - (N + 1) * 490 + 0) (603000 - (N + 1) * 19800 + 0) 509 ([(0, .ref bs), (1, .ref (x + 0)), (2, .ref (x + 205 + 0)), (3, .ref (x + 205 + 1)), (4, .ref (x + 205 + 2)), (5, .ref (x + 205 + 3)), (6, .ref (x + 205 + 4)), (7, .ref (x + 205 + 5)), (8, .ref (x + 205 + 6)), (9, vI x8), (11, vI v16), (13, vI v20), (14, vI r21)]) ([]) ?_ (fun j40 hj40 => ?_)
              · refine s_iload hC dL_law_509 10 rfl ?_
                refine s_bipush hC dL_law_511 (by decide) ?_
                refine s_callS_P (As := [vI v16, vI 26]) (rest := []) hC hKA 2 (m_L_low (I := (VL G x σ9 B10 N11 τ12)) hv16 (inR_c _ rfl)) rfl (cb_of hC 2 q_c_yL_low q_i_L q_m_L_88 rfl rfl dd_yL_low ⟨Nat.le_of_ble_eq_true rfl, Nat.le_of_ble_eq_true rfl⟩) q_s_yL_low rfl (Nat.le_of_ble_eq_true rfl) dL_law_513 ⟨by show _ ≤ 600000; omega, by show _ ≤ 7302250; omega⟩ (fun r41 hr41 => ?_)
                refine s_istore (L' := [(15, vI r41), (0, .ref bs), (1, .ref (x + 0)), (2, .ref (x + 205 + 0)), (3, .ref (x + 205 + 1)), (4, .ref (x + 205 + 2)), (5, .ref (x + 205 + 3)), (6, .ref (x + 205 + 4)), (7, .ref (x + 205 + 5)), (8, .ref (x + 205 + 6)), (9, vI x8), (11, vI v16), (13, vI v20), (14, vI r21)]) hC dL_law_516 (by decide) rfl ?_
                refine s_iload hC dL_law_518 13 rfl ?_
                refine d_jp_I (15100 - (N + 1) * 490 + 0) (603000 - (N + 1) * 19800 + 0) 535 (fun x43 => [(0, .ref bs), (1, .ref (x + 0)), (2, .ref (x + 205 + 0)), (3, .ref (x + 205 + 1)), (4, .ref (x + 205 + 2)), (5, .ref (x + 205 + 3)), (6, .ref (x + 205 + 4)), (7, .ref (x + 205 + 5)), (8, .ref (x + 205 + 6)), (9, vI x8), (11, vI v16), (13, vI v20), (14, vI r21), (15, vI r41)]) (fun x43 => [vI x43]) (fun x43 hx43 => ?_) (fun j42 hj42 => ?_)
                · refine s_istore (L' := [(16, vI x43), (0, .ref bs), (1, .ref (x + 0)), (2, .ref (x + 205 + 0)), (3, .ref (x + 205 + 1)), (4, .ref (x + 205 + 2)), (5, .ref (x + 205 + 3)), (6, .ref (x + 205 + 4)), (7, .ref (x + 205 + 5)), (8, .ref (x + 205 + 6)), (9, vI x8), (11, vI v16), (13, vI v20), (14, vI r21), (15, vI r41)]) hC dL_law_535 (by decide) rfl ?_
                  refine s_iload hC dL_law_537 0 rfl ?_
                  refine s_bipush hC dL_law_539 (by decide) ?_
                  refine s_icmp_ne (tgt := 547) hC dL_law_541 (by decide) hx43 (inR_c _ rfl) ?_ ?_
                  · refine s_sub (L' := [(0, .ref bs), (1, .ref (x + 0)), (2, .ref (x + 205 + 0)), (3, .ref (x + 205 + 1)), (4, .ref (x + 205 + 2)), (5, .ref (x + 205 + 3)), (6, .ref (x + 205 + 4)), (7, .ref (x + 205 + 5)), (8, .ref (x + 205 + 6)), (9, vI x8), (11, vI v16), (13, vI v20), (14, vI r21), (15, vI r41), (16, vI x43)]) [1, 2, 3, 4, 5, 6, 7, 8, 9, 10, 11, 12, 13, 14, 0] rfl ?_
                    refine s_iload hC dL_law_547 12 rfl ?_
                    refine d_jp_D (V := VL G x) (15100 - (N + 1) * 490 + 0) (603000 - (N + 1) * 19800 + 0) 598 ([(0, .ref bs), (1, .ref (x + 0)), (2, .ref (x + 205 + 0)), (3, .ref (x + 205 + 1)), (4, .ref (x + 205 + 2)), (5, .ref (x + 205 + 3)), (6, .ref (x + 205 + 4)), (7, .ref (x + 205 + 5)), (8, .ref (x + 205 + 6)), (9, vI x8), (11, vI v16), (13, vI v20), (14, vI r21), (15, vI r41), (16, vI x43)]) ([]) (fun σ45 B46 N47 τ48 hσ45 hB46 hN47 hτ48 => ?_) (fun j44 hj44 => ?_)
                    · refine s_aload_n hC dL_law_598 rfl 1 rfl ?_
                      refine s_iload hC dL_law_599 11 rfl ?_
                      refine s_iload hC dL_law_601 13 rfl ?_
                      refine u_up4 (V := fun σ B nb => VL G x σ B nb τ48) (As := [vI v20, vI r41]) (rest := []) (a := x + 0) (mc := 98) (ms := 3960) hC hKA 2 (m_X4_append (x := x) (y0 := x + 212) (V := fun σ B nb => VL G x σ B nb τ48) (by omega) VL.wv hσ45 hB46 hN47 hv20 hr41) (fun q h => hAx q h) rfl (cb_of hC 2 q_c_yX4_append q_i_X4 q_m_L_125 rfl rfl dd_yX4_append ⟨Nat.le_of_ble_eq_true rfl, Nat.le_of_ble_eq_true rfl⟩) q_i_yX4_append q_x_yX4_append (s_recv hK (fun H h => (VL.wv.1 _ _ _ _ h).x) (by decide) o_X rfl) rfl (Nat.le_of_ble_eq_true rfl) dL_law_603 ⟨by show _ ≤ 600000; omega, by show _ ≤ 7302250; omega⟩ (fun r49 σ50 B51 N52 hr49 hσ50 hB51 hN52 => ?_)
                      refine s_iload hC dL_law_606 12 rfl ?_
                      refine d_jp_I (15100 - (N + 1) * 490 + 98) (603000 - (N + 1) * 19800 + 3960) 619 (fun x54 => [(0, .ref bs), (1, .ref (x + 0)), (2, .ref (x + 205 + 0)), (3, .ref (x + 205 + 1)), (4, .ref (x + 205 + 2)), (5, .ref (x + 205 + 3)), (6, .ref (x + 205 + 4)), (7, .ref (x + 205 + 5)), (8, .ref (x + 205 + 6)), (9, vI x8), (11, vI v16)]) (fun x54 => [vI x54, vI r49]) (fun x54 hx54 => ?_) (fun j53 hj53 => ?_)
                      · refine s_icmp_eq (tgt := 624) hC dL_law_619 (by decide) hr49 hx54 ?_ ?_
                        · refine s_goto (tgt := 911) hC dL_law_624 (by decide) ?_
                          refine s_widen (k' := 15100 - (N + 1) * 490 + 490) (n' := 603000 - (N + 1) * 19800 + 19800) (by omega) (by omega) ?_
                          exact hj28 σ50 B51 N52 τ48 hσ50 hB51 hN52 hτ48
                        · refine s_sub (L' := []) [] rfl ?_
                          refine s_iconst hC dL_law_622 ?_
                          exact l_ret0
                      · refine s_if_ge (tgt := 615) hC dL_law_608 (by decide) hr21 ?_ ?_
                        · refine s_sub (L' := [(0, .ref bs), (1, .ref (x + 0)), (2, .ref (x + 205 + 0)), (3, .ref (x + 205 + 1)), (4, .ref (x + 205 + 2)), (5, .ref (x + 205 + 3)), (6, .ref (x + 205 + 4)), (7, .ref (x + 205 + 5)), (8, .ref (x + 205 + 6)), (9, vI x8), (11, vI v16), (16, vI x43)]) [0, 1, 2, 3, 4, 5, 6, 7, 8, 9, 10, 14] rfl ?_
                          refine s_iload hC dL_law_615 11 rfl ?_
                          refine s_iconst hC dL_law_617 ?_
                          refine s_iadd hC dL_law_618 ?_
                          refine s_ck0 (fun v55 hv55 => ?_)
                          refine s_sub (L' := [(0, .ref bs), (1, .ref (x + 0)), (2, .ref (x + 205 + 0)), (3, .ref (x + 205 + 1)), (4, .ref (x + 205 + 2)), (5, .ref (x + 205 + 3)), (6, .ref (x + 205 + 4)), (7, .ref (x + 205 + 5)), (8, .ref (x + 205 + 6)), (9, vI x8), (11, vI v16)]) [0, 1, 2, 3, 4, 5, 6, 7, 8, 9, 10] rfl ?_
                          exact hj53 v55 hv55
                        · refine s_sub (L' := [(0, .ref bs), (1, .ref (x + 0)), (2, .ref (x + 205 + 0)), (3, .ref (x + 205 + 1)), (4, .ref (x + 205 + 2)), (5, .ref (x + 205 + 3)), (6, .ref (x + 205 + 4)), (7, .ref (x + 205 + 5)), (8, .ref (x + 205 + 6)), (9, vI x8), (11, vI v16)]) [0, 1, 2, 3, 4, 5, 6, 7, 8, 9, 10] rfl ?_
                          refine s_iconst hC dL_law_611 ?_
                          refine s_goto (tgt := 619) hC dL_law_612 (by decide) ?_
                          exact hj53 ((-1)) (inR_c _ rfl)
                    · refine s_if_lt (tgt := 598) hC dL_law_549 (by decide) hr21 ?_ ?_
                      · exact hj44 σ9 B10 N11 τ12 hσ9 hB10 hN11 hτ12
                      · refine s_aload hC dL_law_552 8 rfl ?_
                        refine s_iconst hC dL_law_554 ?_
                        refine s_iload hC dL_law_555 12 rfl ?_
                        refine s_imul hC dL_law_557 ?_
                        refine s_iload hC dL_law_558 14 rfl ?_
                        refine s_bipush hC dL_law_560 (by decide) ?_
                        refine s_idiv hC dL_law_562 hx43 (inR_c _ rfl) (by decide) (fun v56 hv56 => ?_)
                        refine s_iadd hC dL_law_563 ?_
                        refine s_dup2 hC dL_law_564 rfl rfl ?_
                        refine s_laload (b := x + 205) hC hK (fun H h => h.2) (by decide) l_Tab_6 dL_law_565 (fun l57 => ?_)
                        refine s_iload hC dL_law_566 13 rfl ?_
                        refine s_i2l hC dL_law_568 ?_
                        refine s_iconst hC dL_law_569 ?_
                        refine s_iload hC dL_law_570 14 rfl ?_
                        refine s_bipush hC dL_law_572 (by decide) ?_
                        refine s_irem hC dL_law_574 hx43 (inR_c _ rfl) (by decide) (fun v58 hv58 => ?_)
                        refine s_imul hC dL_law_575 ?_
                        refine s_lshl hC dL_law_576 ?_
                        refine s_lor hC dL_law_577 ?_
                        refine s_lastore (b := x + 205) (J := fun τ => VL G x σ9 B10 N11 τ) hC hK VL.wd (fun q h => hAm q h) hτ12 (by decide) l_Tab_6 dL_law_578 (fun τ59 hτ59 => ?_)
                        refine s_iload hC dL_law_579 12 rfl ?_
                        refine s_iload hC dL_law_581 14 rfl ?_
                        refine s_iconst hC dL_law_583 ?_
                        refine s_iadd hC dL_law_584 ?_
                        refine s_iconst hC dL_law_585 ?_
                        refine s_aload_n hC dL_law_586 rfl 2 rfl ?_
                        refine s_aload_n hC dL_law_587 rfl 3 rfl ?_
                        refine s_aload hC dL_law_588 4 rfl ?_
                        refine s_ck4 (fun v60 hv60 => ?_)
                        refine s_callS_W (J := fun τ => VL G x σ9 B10 N11 τ) (As := [vI r21, vI v60, vI 0, .ref (x + 205 + 0), .ref (x + 205 + 1), .ref (x + 205 + 2)]) (rest := []) hC hKA 6 (m_L_write (b := x + 205) (J := fun τ => VL G x σ9 B10 N11 τ) VL.wd hτ59 hr21 hv60 (inR_c _ rfl) (by decide) a_Tab_0 (by decide) a_Tab_1 (by decide) a_Tab_2) (fun q h => hAm q h) rfl (cb_of hC 6 q_c_yL_write q_i_L q_m_L_42 rfl rfl dd_yL_write ⟨Nat.le_of_ble_eq_true rfl, Nat.le_of_ble_eq_true rfl⟩) q_s_yL_write rfl (Nat.le_of_ble_eq_true rfl) dL_law_590 ⟨by show _ ≤ 600000; omega, by show _ ≤ 7302250; omega⟩ (fun r62 τ61 hr62 hτ61 => ?_)
                        refine s_if_ne (tgt := 598) hC dL_law_593 (by decide) hr62 ?_ ?_
                        · exact hj44 σ9 B10 N11 τ61 hσ9 hB10 hN11 hτ61
                        · refine s_sub (L' := []) [] rfl ?_
                          refine s_iconst hC dL_law_596 ?_
                          exact l_ret0
                  · refine s_sub (L' := [(0, .ref bs), (1, .ref (x + 0)), (2, .ref (x + 205 + 0)), (3, .ref (x + 205 + 1)), (4, .ref (x + 205 + 2)), (5, .ref (x + 205 + 3)), (6, .ref (x + 205 + 4)), (7, .ref (x + 205 + 5)), (8, .ref (x + 205 + 6)), (9, vI x8)]) [1, 2, 3, 4, 5, 6, 7, 8, 9, 10] rfl ?_
                    refine s_goto (tgt := 959) hC dL_law_544 (by decide) ?_
                    refine s_widen (k' := 15100 - (N + 1) * 490 + 490) (n' := 603000 - (N + 1) * 19800 + 19800) (by omega) (by omega) ?_
                    exact hj22 σ9 B10 N11 τ12 hσ9 hB10 hN11 hτ12
                · refine s_if_ge (tgt := 527) hC dL_law_520 (by decide) hr21 ?_ ?_
                  · refine s_sub (L' := [(0, .ref bs), (1, .ref (x + 0)), (2, .ref (x + 205 + 0)), (3, .ref (x + 205 + 1)), (4, .ref (x + 205 + 2)), (5, .ref (x + 205 + 3)), (6, .ref (x + 205 + 4)), (7, .ref (x + 205 + 5)), (8, .ref (x + 205 + 6)), (9, vI x8), (11, vI v16), (13, vI v20), (14, vI r21), (15, vI r41)]) [1, 2, 3, 4, 5, 6, 7, 8, 9, 10, 11, 12, 13, 0] rfl ?_
                    refine s_aload_n hC dL_law_527 rfl 3 rfl ?_
                    refine s_iconst hC dL_law_528 ?_
                    refine s_iload hC dL_law_529 12 rfl ?_
                    refine s_imul hC dL_law_531 ?_
                    refine s_iconst hC dL_law_532 ?_
                    refine s_iadd hC dL_law_533 ?_
                    refine s_iaload (b := x + 205) hC hK (fun H h => h.2) hτ12 (by decide) a_Tab_1 dL_law_534 (fun v63 hv63 => ?_)
                    exact hj42 v63 hv63
                  · refine s_sub (L' := [(0, .ref bs), (1, .ref (x + 0)), (2, .ref (x + 205 + 0)), (3, .ref (x + 205 + 1)), (4, .ref (x + 205 + 2)), (5, .ref (x + 205 + 3)), (6, .ref (x + 205 + 4)), (7, .ref (x + 205 + 5)), (8, .ref (x + 205 + 6)), (9, vI x8), (11, vI v16), (13, vI v20), (14, vI r21), (15, vI r41)]) [1, 2, 3, 4, 5, 6, 7, 8, 9, 10, 11, 12, 13, 0] rfl ?_
                    refine s_iconst hC dL_law_523 ?_
                    refine s_goto (tgt := 535) hC dL_law_524 (by decide) ?_
                    exact hj42 0 (inR_c _ rfl)
              · refine s_icmp_eq (tgt := 509) hC dL_law_499 (by decide) hx18 (inR_c _ rfl) ?_ ?_
                · refine s_sub (L' := [(0, .ref bs), (1, .ref (x + 0)), (2, .ref (x + 205 + 0)), (3, .ref (x + 205 + 1)), (4, .ref (x + 205 + 2)), (5, .ref (x + 205 + 3)), (6, .ref (x + 205 + 4)), (7, .ref (x + 205 + 5)), (8, .ref (x + 205 + 6)), (9, vI x8), (11, vI v16), (13, vI v20), (14, vI r21)]) [0, 1, 2, 3, 4, 5, 6, 7, 8, 9, 10, 12, 13] rfl ?_
                  exact hj40
                · refine s_iload hC dL_law_502 11 rfl ?_
                  refine s_bipush hC dL_law_504 (by decide) ?_
                  refine s_icmp_ne (tgt := 627) hC dL_law_506 (by decide) hx18 (inR_c _ rfl) ?_ ?_
                  · refine s_iload hC dL_law_627 11 rfl ?_
                    refine s_bipush hC dL_law_629 (by decide) ?_
                    refine d_jp_ (15100 - (N + 1) * 490 + 0) (603000 - (N + 1) * 19800 + 0) 764 ([(0, .ref bs), (1, .ref (x + 0)), (2, .ref (x + 205 + 0)), (3, .ref (x + 205 + 1)), (4, .ref (x + 205 + 2)), (5, .ref (x + 205 + 3)), (6, .ref (x + 205 + 4)), (7, .ref (x + 205 + 5)), (8, .ref (x + 205 + 6)), (9, vI x8), (11, vI v16), (12, vI x18)]) ([]) ?_ (fun j64 hj64 => ?_)
                    · refine s_iload hC dL_law_764 11 rfl ?_
                      refine s_bipush hC dL_law_766 (by decide) ?_
                      refine d_jp_ (15100 - (N + 1) * 490 + 0) (603000 - (N + 1) * 19800 + 0) 850 ([(0, .ref bs), (1, .ref (x + 0)), (2, .ref (x + 205 + 0)), (3, .ref (x + 205 + 1)), (4, .ref (x + 205 + 2)), (5, .ref (x + 205 + 3)), (6, .ref (x + 205 + 4)), (7, .ref (x + 205 + 5)), (8, .ref (x + 205 + 6)), (9, vI x8), (11, vI v16)]) ([]) ?_ (fun j65 hj65 => ?_)
                      · refine s_iload hC dL_law_850 10 rfl ?_
                        refine s_iconst hC dL_law_852 ?_
                        refine s_callS_P (As := [vI v16, vI 2]) (rest := []) hC hKA 2 (m_L_low (I := (VL G x σ9 B10 N11 τ12)) hv16 (inR_c _ rfl)) rfl (cb_of hC 2 q_c_yL_low q_i_L q_m_L_88 rfl rfl dd_yL_low ⟨Nat.le_of_ble_eq_true rfl, Nat.le_of_ble_eq_true rfl⟩) q_s_yL_low rfl (Nat.le_of_ble_eq_true rfl) dL_law_853 ⟨by show _ ≤ 600000; omega, by show _ ≤ 7302250; omega⟩ (fun r66 hr66 => ?_)
                        refine s_istore (L' := [(15, vI r66), (0, .ref bs), (1, .ref (x + 0)), (2, .ref (x + 205 + 0)), (3, .ref (x + 205 + 1)), (4, .ref (x + 205 + 2)), (5, .ref (x + 205 + 3)), (6, .ref (x + 205 + 4)), (7, .ref (x + 205 + 5)), (8, .ref (x + 205 + 6)), (9, vI x8), (11, vI v16)]) hC dL_law_856 (by decide) rfl ?_
                        refine s_iload hC dL_law_858 0 rfl ?_
                        refine d_jp_I (15100 - (N + 1) * 490 + 0) (603000 - (N + 1) * 19800 + 0) 886 (fun x68 => [(0, .ref bs), (1, .ref (x + 0)), (2, .ref (x + 205 + 0)), (3, .ref (x + 205 + 1)), (4, .ref (x + 205 + 2)), (5, .ref (x + 205 + 3)), (6, .ref (x + 205 + 4)), (7, .ref (x + 205 + 5)), (8, .ref (x + 205 + 6)), (9, vI x8), (11, vI v16), (15, vI r66)]) (fun x68 => [vI x68]) (fun x68 hx68 => ?_) (fun j67 hj67 => ?_)
                        · refine s_istore (L' := [(16, vI x68), (0, .ref bs), (1, .ref (x + 0)), (2, .ref (x + 205 + 0)), (3, .ref (x + 205 + 1)), (4, .ref (x + 205 + 2)), (5, .ref (x + 205 + 3)), (6, .ref (x + 205 + 4)), (7, .ref (x + 205 + 5)), (8, .ref (x + 205 + 6)), (9, vI x8), (11, vI v16), (15, vI r66)]) hC dL_law_886 (by decide) rfl ?_
                          refine s_aload_n hC dL_law_888 rfl 2 rfl ?_
                          refine s_iload hC dL_law_889 12 rfl ?_
                          refine s_iload hC dL_law_891 0 rfl ?_
                          refine u_up4 (V := fun σ B nb => VL G x σ B nb τ12) (As := [vI r66, vI x68]) (rest := []) (a := x + 0) (mc := 98) (ms := 3960) hC hKA 2 (m_X4_set (x := x) (y0 := x + 212) (V := fun σ B nb => VL G x σ B nb τ12) (by omega) VL.wv hσ9 hB10 hN11 hr66 hx68) (fun q h => hAx q h) rfl (cb_of hC 2 q_c_yX4_set q_i_X4 q_m_L_133 rfl rfl dd_yX4_set ⟨Nat.le_of_ble_eq_true rfl, Nat.le_of_ble_eq_true rfl⟩) q_i_yX4_set q_x_yX4_set (s_recv hK (fun H h => (VL.wv.1 _ _ _ _ h).x) (by decide) o_X rfl) rfl (Nat.le_of_ble_eq_true rfl) dL_law_893 ⟨by show _ ≤ 600000; omega, by show _ ≤ 7302250; omega⟩ (fun r69 σ70 B71 N72 hr69 hσ70 hB71 hN72 => ?_)
                          refine s_aload_n hC dL_law_896 rfl 3 rfl ?_
                          refine s_iload hC dL_law_897 12 rfl ?_
                          refine s_iaload (b := x + 205) hC hK (fun H h => h.2) hτ12 (by decide) a_Tab_0 dL_law_899 (fun v73 hv73 => ?_)
                          refine s_icmp_eq (tgt := 905) hC dL_law_900 (by decide) hr69 hv73 ?_ ?_
                          · refine s_sub (L' := [(0, .ref bs), (1, .ref (x + 0)), (2, .ref (x + 205 + 0)), (3, .ref (x + 205 + 1)), (4, .ref (x + 205 + 2)), (5, .ref (x + 205 + 3)), (6, .ref (x + 205 + 4)), (7, .ref (x + 205 + 5)), (8, .ref (x + 205 + 6)), (9, vI x8), (11, vI v16), (15, vI r66), (16, vI x68)]) [1, 2, 3, 4, 5, 6, 7, 8, 9, 10, 11, 12, 0] rfl ?_
                            refine s_aload_n hC dL_law_905 rfl 2 rfl ?_
                            refine s_iload hC dL_law_906 11 rfl ?_
                            refine s_iload hC dL_law_908 12 rfl ?_
                            refine s_iastore (b := x + 205) (J := fun τ => VL G x σ70 B71 N72 τ) hC hK VL.wd (fun q h => hAm q h) hτ12 hx68 (by decide) a_Tab_0 dL_law_910 (fun τ74 hτ74 => ?_)
                            refine s_sub (L' := [(0, .ref bs), (1, .ref (x + 0)), (2, .ref (x + 205 + 0)), (3, .ref (x + 205 + 1)), (4, .ref (x + 205 + 2)), (5, .ref (x + 205 + 3)), (6, .ref (x + 205 + 4)), (7, .ref (x + 205 + 5)), (8, .ref (x + 205 + 6)), (9, vI x8), (11, vI v16)]) [0, 1, 2, 3, 4, 5, 6, 7, 8, 9, 10] rfl ?_
                            refine s_widen (k' := 15100 - (N + 1) * 490 + 490) (n' := 603000 - (N + 1) * 19800 + 19800) (by omega) (by omega) ?_
                            exact hj28 σ70 B71 N72 τ74 hσ70 hB71 hN72 hτ74
                          · refine s_sub (L' := []) [] rfl ?_
                            refine s_iconst hC dL_law_903 ?_
                            exact l_ret0
                        · refine s_if_ne (tgt := 875) hC dL_law_860 (by decide) hr66 ?_ ?_
                          · refine s_sub (L' := [(0, .ref bs), (1, .ref (x + 0)), (2, .ref (x + 205 + 0)), (3, .ref (x + 205 + 1)), (4, .ref (x + 205 + 2)), (5, .ref (x + 205 + 3)), (6, .ref (x + 205 + 4)), (7, .ref (x + 205 + 5)), (8, .ref (x + 205 + 6)), (9, vI x8), (11, vI v16), (15, vI r66)]) [1, 2, 3, 4, 5, 6, 7, 8, 9, 10, 11, 0] rfl ?_
                            refine s_iconst hC dL_law_875 ?_
                            refine s_iload hC dL_law_876 10 rfl ?_
                            refine s_iconst hC dL_law_878 ?_
                            refine s_ishr hC dL_law_879 ?_
                            refine s_bipush hC dL_law_880 (by decide) ?_
                            refine s_callS_P (As := [vI (ishr v16 2), vI 9]) (rest := [vI 4]) hC hKA 2 (m_L_low (I := (VL G x σ9 B10 N11 τ12)) (i32_in _) (inR_c _ rfl)) rfl (cb_of hC 2 q_c_yL_low q_i_L q_m_L_88 rfl rfl dd_yL_low ⟨Nat.le_of_ble_eq_true rfl, Nat.le_of_ble_eq_true rfl⟩) q_s_yL_low rfl (Nat.le_of_ble_eq_true rfl) dL_law_882 ⟨by show _ ≤ 600000; omega, by show _ ≤ 7302250; omega⟩ (fun r75 hr75 => ?_)
                            refine s_iadd hC dL_law_885 ?_
                            refine s_ck0 (fun v76 hv76 => ?_)
                            exact hj67 v76 hv76
                          · refine s_sub (L' := [(0, .ref bs), (1, .ref (x + 0)), (2, .ref (x + 205 + 0)), (3, .ref (x + 205 + 1)), (4, .ref (x + 205 + 2)), (5, .ref (x + 205 + 3)), (6, .ref (x + 205 + 4)), (7, .ref (x + 205 + 5)), (8, .ref (x + 205 + 6)), (9, vI x8), (11, vI v16), (15, vI r66)]) [1, 2, 3, 4, 5, 6, 7, 8, 9, 10, 11, 0] rfl ?_
                            refine s_iload hC dL_law_863 10 rfl ?_
                            refine s_iconst hC dL_law_865 ?_
                            refine s_ishr hC dL_law_866 ?_
                            refine s_bipush hC dL_law_867 (by decide) ?_
                            refine s_callS_P (As := [vI (ishr v16 2), vI 17]) (rest := []) hC hKA 2 (m_L_low (I := (VL G x σ9 B10 N11 τ12)) (i32_in _) (inR_c _ rfl)) rfl (cb_of hC 2 q_c_yL_low q_i_L q_m_L_88 rfl rfl dd_yL_low ⟨Nat.le_of_ble_eq_true rfl, Nat.le_of_ble_eq_true rfl⟩) q_s_yL_low rfl (Nat.le_of_ble_eq_true rfl) dL_law_869 ⟨by show _ ≤ 600000; omega, by show _ ≤ 7302250; omega⟩ (fun r77 hr77 => ?_)
                            refine s_goto (tgt := 886) hC dL_law_872 (by decide) ?_
                            exact hj67 r77 hr77
                      · refine s_icmp_ne (tgt := 850) hC dL_law_768 (by decide) hx18 (inR_c _ rfl) ?_ ?_
                        · refine s_sub (L' := [(0, .ref bs), (1, .ref (x + 0)), (2, .ref (x + 205 + 0)), (3, .ref (x + 205 + 1)), (4, .ref (x + 205 + 2)), (5, .ref (x + 205 + 3)), (6, .ref (x + 205 + 4)), (7, .ref (x + 205 + 5)), (8, .ref (x + 205 + 6)), (9, vI x8), (11, vI v16)]) [0, 1, 2, 3, 4, 5, 6, 7, 8, 9, 10] rfl ?_
                          exact hj65
                        · refine s_sub (L' := [(0, .ref bs), (1, .ref (x + 0)), (2, .ref (x + 205 + 0)), (3, .ref (x + 205 + 1)), (4, .ref (x + 205 + 2)), (5, .ref (x + 205 + 3)), (6, .ref (x + 205 + 4)), (7, .ref (x + 205 + 5)), (8, .ref (x + 205 + 6)), (9, vI x8), (11, vI v16)]) [0, 1, 2, 3, 4, 5, 6, 7, 8, 9, 10] rfl ?_
                          refine s_iload hC dL_law_771 10 rfl ?_
                          refine s_iconst hC dL_law_773 ?_
                          refine s_callS_P (As := [vI v16, vI 2]) (rest := []) hC hKA 2 (m_L_low (I := (VL G x σ9 B10 N11 τ12)) hv16 (inR_c _ rfl)) rfl (cb_of hC 2 q_c_yL_low q_i_L q_m_L_88 rfl rfl dd_yL_low ⟨Nat.le_of_ble_eq_true rfl, Nat.le_of_ble_eq_true rfl⟩) q_s_yL_low rfl (Nat.le_of_ble_eq_true rfl) dL_law_774 ⟨by show _ ≤ 600000; omega, by show _ ≤ 7302250; omega⟩ (fun r78 hr78 => ?_)
                          refine s_if_ne (tgt := 850) hC dL_law_777 (by decide) hr78 ?_ ?_
                          · exact hj65
                          · refine s_aload_n hC dL_law_780 rfl 2 rfl ?_
                            refine s_aload_n hC dL_law_781 rfl 3 rfl ?_
                            refine s_aload hC dL_law_782 4 rfl ?_
                            refine s_callS_W (J := fun τ => VL G x σ9 B10 N11 τ) (As := [.ref (x + 205 + 0), .ref (x + 205 + 1), .ref (x + 205 + 2)]) (rest := []) hC hKA 3 (m_L_pack (b := x + 205) (J := fun τ => VL G x σ9 B10 N11 τ) VL.wd hτ12 (by decide) a_Tab_0 (by decide) a_Tab_1 (by decide) a_Tab_2) (fun q h => hAm q h) rfl (cb_of hC 3 q_c_yL_pack q_i_L q_m_L_95 rfl rfl dd_yL_pack ⟨Nat.le_of_ble_eq_true rfl, Nat.le_of_ble_eq_true rfl⟩) q_s_yL_pack rfl (Nat.le_of_ble_eq_true rfl) dL_law_784 ⟨by show _ ≤ 600000; omega, by show _ ≤ 7302250; omega⟩ (fun r80 τ79 hr80 hτ79 => ?_)
                            refine s_if_ne (tgt := 792) hC dL_law_787 (by decide) hr80 ?_ ?_
                            · refine s_iconst hC dL_law_792 ?_
                              refine s_istore (L' := [(15, vI 0), (0, .ref bs), (1, .ref (x + 0)), (2, .ref (x + 205 + 0)), (3, .ref (x + 205 + 1)), (4, .ref (x + 205 + 2)), (5, .ref (x + 205 + 3)), (6, .ref (x + 205 + 4)), (7, .ref (x + 205 + 5)), (8, .ref (x + 205 + 6)), (9, vI x8), (11, vI v16)]) hC dL_law_793 (by decide) rfl ?_
                              refine s_iconst hC dL_law_795 ?_
                              refine s_istore (L' := [(16, vI 0), (15, vI 0), (0, .ref bs), (1, .ref (x + 0)), (2, .ref (x + 205 + 0)), (3, .ref (x + 205 + 1)), (4, .ref (x + 205 + 2)), (5, .ref (x + 205 + 3)), (6, .ref (x + 205 + 4)), (7, .ref (x + 205 + 5)), (8, .ref (x + 205 + 6)), (9, vI x8), (11, vI v16)]) hC dL_law_796 (by decide) rfl ?_
                              refine s_sub (L' := [(0, .ref bs), (1, .ref (x + 0)), (2, .ref (x + 205 + 0)), (3, .ref (x + 205 + 1)), (4, .ref (x + 205 + 2)), (5, .ref (x + 205 + 3)), (6, .ref (x + 205 + 4)), (7, .ref (x + 205 + 5)), (8, .ref (x + 205 + 6)), (9, vI x8), (11, vI v16), (15, vI 0), (16, vI 0)]) [2, 3, 4, 5, 6, 7, 8, 9, 10, 11, 12, 1, 0] rfl ?_
                              refine d_jp_I (15100 - (N + 1) * 490 + 0) (603000 - (N + 1) * 19800 + 0) 836 (fun x82 => [(0, .ref bs), (1, .ref (x + 0)), (2, .ref (x + 205 + 0)), (3, .ref (x + 205 + 1)), (4, .ref (x + 205 + 2)), (5, .ref (x + 205 + 3)), (6, .ref (x + 205 + 4)), (7, .ref (x + 205 + 5)), (8, .ref (x + 205 + 6)), (9, vI x8), (11, vI v16), (15, vI x82)]) (fun x82 => []) (fun x82 hx82 => ?_) (fun j81 hj81 => ?_)
                              · refine s_aload_n hC dL_law_836 rfl 1 rfl ?_
                                refine u_up4 (V := fun σ B nb => VL G x σ B nb τ79) (As := []) (rest := []) (a := x + 0) (mc := 98) (ms := 3960) hC hKA 0 (m_X4_pack (x := x) (y0 := x + 212) (V := fun σ B nb => VL G x σ B nb τ79) (by omega) VL.wv hσ9 hB10 hN11) (fun q h => hAx q h) rfl (cb_of hC 0 q_c_yX4_pack q_i_X4 q_m_L_131 rfl rfl dd_yX4_pack ⟨Nat.le_of_ble_eq_true rfl, Nat.le_of_ble_eq_true rfl⟩) q_i_yX4_pack q_x_yX4_pack (s_recv hK (fun H h => (VL.wv.1 _ _ _ _ h).x) (by decide) o_X rfl) rfl (Nat.le_of_ble_eq_true rfl) dL_law_837 ⟨by show _ ≤ 600000; omega, by show _ ≤ 7302250; omega⟩ (fun r83 σ84 B85 N86 hr83 hσ84 hB85 hN86 => ?_)
                                refine s_iload hC dL_law_840 11 rfl ?_
                                refine s_icmp_eq (tgt := 847) hC dL_law_842 (by decide) hr83 hx82 ?_ ?_
                                · refine s_sub (L' := [(0, .ref bs), (1, .ref (x + 0)), (2, .ref (x + 205 + 0)), (3, .ref (x + 205 + 1)), (4, .ref (x + 205 + 2)), (5, .ref (x + 205 + 3)), (6, .ref (x + 205 + 4)), (7, .ref (x + 205 + 5)), (8, .ref (x + 205 + 6)), (9, vI x8), (11, vI v16)]) [0, 1, 2, 3, 4, 5, 6, 7, 8, 9, 10] rfl ?_
                                  refine s_goto (tgt := 911) hC dL_law_847 (by decide) ?_
                                  refine s_widen (k' := 15100 - (N + 1) * 490 + 490) (n' := 603000 - (N + 1) * 19800 + 19800) (by omega) (by omega) ?_
                                  exact hj28 σ84 B85 N86 τ79 hσ84 hB85 hN86 hτ79
                                · refine s_sub (L' := []) [] rfl ?_
                                  refine s_iconst hC dL_law_845 ?_
                                  exact l_ret0
                              · refine d_lp_II (F := g_L_law_L798 τ79 j81) 798 (fun x87 x88 => [(0, .ref bs), (1, .ref (x + 0)), (2, .ref (x + 205 + 0)), (3, .ref (x + 205 + 1)), (4, .ref (x + 205 + 2)), (5, .ref (x + 205 + 3)), (6, .ref (x + 205 + 4)), (7, .ref (x + 205 + 5)), (8, .ref (x + 205 + 6)), (9, vI x8), (11, vI v16), (15, vI x87), (16, vI x88)]) (fun _ _ => rfl) (fun n ih798 x87 x88 hx87 hx88 => ?_) fu 0 0 (inR_c _ rfl) (inR_c _ rfl)
                                rw [g_L_law_L798]
                                refine s_iload hC dL_law_798 12 rfl ?_
                                refine s_bipush hC dL_law_800 (by decide) ?_
                                refine s_icmp_ge (tgt := 836) hC dL_law_802 (by decide) hx88 (inR_c _ rfl) ?_ ?_
                                · refine s_sub (L' := [(0, .ref bs), (1, .ref (x + 0)), (2, .ref (x + 205 + 0)), (3, .ref (x + 205 + 1)), (4, .ref (x + 205 + 2)), (5, .ref (x + 205 + 3)), (6, .ref (x + 205 + 4)), (7, .ref (x + 205 + 5)), (8, .ref (x + 205 + 6)), (9, vI x8), (11, vI v16), (15, vI x87)]) [0, 1, 2, 3, 4, 5, 6, 7, 8, 9, 10, 11] rfl ?_
                                  exact hj81 x87 hx87
                                · refine s_iload hC dL_law_805 11 rfl ?_
                                  refine s_iload hC dL_law_807 12 rfl ?_
                                  refine s_aload hC dL_law_809 4 rfl ?_
                                  refine s_aload_n hC dL_law_811 rfl 2 rfl ?_
                                  refine s_iconst hC dL_law_812 ?_
                                  refine s_iaload (b := x + 205) hC hK (fun H h => h.2) hτ79 (by decide) a_Tab_0 dL_law_813 (fun v89 hv89 => ?_)
                                  refine s_callS_P (As := [vI x88, .ref (x + 205 + 2), vI v89]) (rest := [vI x87]) hC hKA 3 (m_L_free (b := x + 205) (fun H h => h.2) hτ79 hx88 (by decide) a_Tab_2 hv89) rfl (cb_of hC 3 q_c_yL_free q_i_L q_m_L_16 rfl rfl dd_yL_free ⟨Nat.le_of_ble_eq_true rfl, Nat.le_of_ble_eq_true rfl⟩) q_s_yL_free rfl (Nat.le_of_ble_eq_true rfl) dL_law_814 ⟨by show _ ≤ 600000; omega, by show _ ≤ 7302250; omega⟩ (fun r90 hr90 => ?_)
                                  refine s_bipush hC dL_law_817 (by decide) ?_
                                  refine d_jp_I (15100 - (N + 1) * 490 + 0) (603000 - (N + 1) * 19800 + 0) 827 (fun x92 => [(0, .ref bs), (1, .ref (x + 0)), (2, .ref (x + 205 + 0)), (3, .ref (x + 205 + 1)), (4, .ref (x + 205 + 2)), (5, .ref (x + 205 + 3)), (6, .ref (x + 205 + 4)), (7, .ref (x + 205 + 5)), (8, .ref (x + 205 + 6)), (9, vI x8), (11, vI v16), (16, vI x88)]) (fun x92 => [vI x92, vI x87]) (fun x92 hx92 => ?_) (fun j91 hj91 => ?_)
                                  · refine s_iadd hC dL_law_827 ?_
                                    refine s_ck0 (fun v93 hv93 => ?_)
                                    refine s_istore (L' := [(15, vI v93), (0, .ref bs), (1, .ref (x + 0)), (2, .ref (x + 205 + 0)), (3, .ref (x + 205 + 1)), (4, .ref (x + 205 + 2)), (5, .ref (x + 205 + 3)), (6, .ref (x + 205 + 4)), (7, .ref (x + 205 + 5)), (8, .ref (x + 205 + 6)), (9, vI x8), (11, vI v16), (16, vI x88)]) hC dL_law_828 (by decide) rfl ?_
                                    refine s_iincK hC dL_law_830 12 rfl (by decide) (fun v94 => [(16, vI v94), (15, vI v93), (0, .ref bs), (1, .ref (x + 0)), (2, .ref (x + 205 + 0)), (3, .ref (x + 205 + 1)), (4, .ref (x + 205 + 2)), (5, .ref (x + 205 + 3)), (6, .ref (x + 205 + 4)), (7, .ref (x + 205 + 5)), (8, .ref (x + 205 + 6)), (9, vI x8), (11, vI v16)]) (fun _ => rfl) (fun v94 hv94 => ?_)
                                    refine s_goto (tgt := 798) hC dL_law_833 (by decide) ?_
                                    refine s_sub (L' := [(0, .ref bs), (1, .ref (x + 0)), (2, .ref (x + 205 + 0)), (3, .ref (x + 205 + 1)), (4, .ref (x + 205 + 2)), (5, .ref (x + 205 + 3)), (6, .ref (x + 205 + 4)), (7, .ref (x + 205 + 5)), (8, .ref (x + 205 + 6)), (9, vI x8), (11, vI v16), (15, vI v93), (16, vI v94)]) [2, 3, 4, 5, 6, 7, 8, 9, 10, 11, 12, 1, 0] rfl ?_
                                    exact ih798 v93 v94 hv93 hv94
                                  · refine s_icmp_ge (tgt := 826) hC dL_law_819 (by decide) hr90 (inR_c _ rfl) ?_ ?_
                                    · refine s_sub (L' := [(0, .ref bs), (1, .ref (x + 0)), (2, .ref (x + 205 + 0)), (3, .ref (x + 205 + 1)), (4, .ref (x + 205 + 2)), (5, .ref (x + 205 + 3)), (6, .ref (x + 205 + 4)), (7, .ref (x + 205 + 5)), (8, .ref (x + 205 + 6)), (9, vI x8), (11, vI v16), (16, vI x88)]) [0, 1, 2, 3, 4, 5, 6, 7, 8, 9, 10, 12] rfl ?_
                                      refine s_iconst hC dL_law_826 ?_
                                      exact hj91 0 (inR_c _ rfl)
                                    · refine s_sub (L' := [(0, .ref bs), (1, .ref (x + 0)), (2, .ref (x + 205 + 0)), (3, .ref (x + 205 + 1)), (4, .ref (x + 205 + 2)), (5, .ref (x + 205 + 3)), (6, .ref (x + 205 + 4)), (7, .ref (x + 205 + 5)), (8, .ref (x + 205 + 6)), (9, vI x8), (11, vI v16), (16, vI x88)]) [0, 1, 2, 3, 4, 5, 6, 7, 8, 9, 10, 12] rfl ?_
                                      refine s_iconst hC dL_law_822 ?_
                                      refine s_goto (tgt := 827) hC dL_law_823 (by decide) ?_
                                      exact hj91 1 (inR_c _ rfl)
                            · refine s_sub (L' := []) [] rfl ?_
                              refine s_iconst hC dL_law_790 ?_
                              exact l_ret0
                    · refine s_icmp_ne (tgt := 764) hC dL_law_631 (by decide) hx18 (inR_c _ rfl) ?_ ?_
                      · refine s_sub (L' := [(0, .ref bs), (1, .ref (x + 0)), (2, .ref (x + 205 + 0)), (3, .ref (x + 205 + 1)), (4, .ref (x + 205 + 2)), (5, .ref (x + 205 + 3)), (6, .ref (x + 205 + 4)), (7, .ref (x + 205 + 5)), (8, .ref (x + 205 + 6)), (9, vI x8), (11, vI v16), (12, vI x18)]) [0, 1, 2, 3, 4, 5, 6, 7, 8, 9, 10, 11] rfl ?_
                        exact hj64
                      · refine s_iload hC dL_law_634 10 rfl ?_
                        refine s_iconst hC dL_law_636 ?_
                        refine s_callS_P (As := [vI v16, vI 2]) (rest := []) hC hKA 2 (m_L_low (I := (VL G x σ9 B10 N11 τ12)) hv16 (inR_c _ rfl)) rfl (cb_of hC 2 q_c_yL_low q_i_L q_m_L_88 rfl rfl dd_yL_low ⟨Nat.le_of_ble_eq_true rfl, Nat.le_of_ble_eq_true rfl⟩) q_s_yL_low rfl (Nat.le_of_ble_eq_true rfl) dL_law_637 ⟨by show _ ≤ 600000; omega, by show _ ≤ 7302250; omega⟩ (fun r95 hr95 => ?_)
                        refine s_if_ne (tgt := 764) hC dL_law_640 (by decide) hr95 ?_ ?_
                        · refine s_sub (L' := [(0, .ref bs), (1, .ref (x + 0)), (2, .ref (x + 205 + 0)), (3, .ref (x + 205 + 1)), (4, .ref (x + 205 + 2)), (5, .ref (x + 205 + 3)), (6, .ref (x + 205 + 4)), (7, .ref (x + 205 + 5)), (8, .ref (x + 205 + 6)), (9, vI x8), (11, vI v16), (12, vI x18)]) [0, 1, 2, 3, 4, 5, 6, 7, 8, 9, 10, 11] rfl ?_
                          exact hj64
                        · refine s_sub (L' := [(0, .ref bs), (1, .ref (x + 0)), (2, .ref (x + 205 + 0)), (3, .ref (x + 205 + 1)), (4, .ref (x + 205 + 2)), (5, .ref (x + 205 + 3)), (6, .ref (x + 205 + 4)), (7, .ref (x + 205 + 5)), (8, .ref (x + 205 + 6)), (9, vI x8), (11, vI v16), (13, vI v20), (14, vI r21)]) [0, 1, 2, 3, 4, 5, 6, 7, 8, 9, 10, 12, 13] rfl ?_
                          refine s_iconst hC dL_law_643 ?_
                          refine s_istore (L' := [(15, vI 0), (0, .ref bs), (1, .ref (x + 0)), (2, .ref (x + 205 + 0)), (3, .ref (x + 205 + 1)), (4, .ref (x + 205 + 2)), (5, .ref (x + 205 + 3)), (6, .ref (x + 205 + 4)), (7, .ref (x + 205 + 5)), (8, .ref (x + 205 + 6)), (9, vI x8), (11, vI v16), (13, vI v20), (14, vI r21)]) hC dL_law_644 (by decide) rfl ?_
                          refine s_aload_n hC dL_law_646 rfl 3 rfl ?_
                          refine s_iconst hC dL_law_647 ?_
                          refine s_iaload (b := x + 205) hC hK (fun H h => h.2) hτ12 (by decide) a_Tab_0 dL_law_648 (fun v96 hv96 => ?_)
                          refine s_iconst hC dL_law_649 ?_
                          refine s_isub hC dL_law_650 ?_
                          refine s_ck0 (fun v97 hv97 => ?_)
                          refine s_istore (L' := [(16, vI v97), (15, vI 0), (0, .ref bs), (1, .ref (x + 0)), (2, .ref (x + 205 + 0)), (3, .ref (x + 205 + 1)), (4, .ref (x + 205 + 2)), (5, .ref (x + 205 + 3)), (6, .ref (x + 205 + 4)), (7, .ref (x + 205 + 5)), (8, .ref (x + 205 + 6)), (9, vI x8), (11, vI v16), (13, vI v20), (14, vI r21)]) hC dL_law_651 (by decide) rfl ?_
                          refine s_sub (L' := [(0, .ref bs), (1, .ref (x + 0)), (2, .ref (x + 205 + 0)), (3, .ref (x + 205 + 1)), (4, .ref (x + 205 + 2)), (5, .ref (x + 205 + 3)), (6, .ref (x + 205 + 4)), (7, .ref (x + 205 + 5)), (8, .ref (x + 205 + 6)), (9, vI x8), (11, vI v16), (13, vI v20), (14, vI r21), (15, vI 0), (16, vI v97)]) [2, 3, 4, 5, 6, 7, 8, 9, 10, 11, 12, 13, 14, 1, 0] rfl ?_
                          refine d_jp_ID (V := VL G x) (15100 - (N + 1) * 490 + 0) (603000 - (N + 1) * 19800 + 0) 709 (fun x99 => [(0, .ref bs), (1, .ref (x + 0)), (2, .ref (x + 205 + 0)), (3, .ref (x + 205 + 1)), (4, .ref (x + 205 + 2)), (5, .ref (x + 205 + 3)), (6, .ref (x + 205 + 4)), (7, .ref (x + 205 + 5)), (8, .ref (x + 205 + 6)), (9, vI x8), (11, vI v16), (13, vI v20), (14, vI r21), (15, vI x99)]) (fun x99 => []) (fun x99 σ100 B101 N102 τ103 hx99 hσ100 hB101 hN102 hτ103 => ?_) (fun j98 hj98 => ?_)
                          · refine s_aload_n hC dL_law_709 rfl 1 rfl ?_
                            refine s_iload hC dL_law_710 11 rfl ?_
                            refine u_up4 (V := fun σ B nb => VL G x σ B nb τ103) (As := [vI v20]) (rest := []) (a := x + 0) (mc := 98) (ms := 3960) hC hKA 1 (m_X4_delete (x := x) (y0 := x + 212) (V := fun σ B nb => VL G x σ B nb τ103) (by omega) VL.wv hσ100 hB101 hN102 hv20) (fun q h => hAx q h) rfl (cb_of hC 1 q_c_yX4_delete q_i_X4 q_m_L_128 rfl rfl dd_yX4_delete ⟨Nat.le_of_ble_eq_true rfl, Nat.le_of_ble_eq_true rfl⟩) q_i_yX4_delete q_x_yX4_delete (s_recv hK (fun H h => (VL.wv.1 _ _ _ _ h).x) (by decide) o_X rfl) rfl (Nat.le_of_ble_eq_true rfl) dL_law_712 ⟨by show _ ≤ 600000; omega, by show _ ≤ 7302250; omega⟩ (fun r104 σ105 B106 N107 hr104 hσ105 hB106 hN107 => ?_)
                            refine s_iload hC dL_law_715 12 rfl ?_
                            refine d_jp_I (15100 - (N + 1) * 490 + 98) (603000 - (N + 1) * 19800 + 3960) 726 (fun x109 => [(0, .ref bs), (1, .ref (x + 0)), (2, .ref (x + 205 + 0)), (3, .ref (x + 205 + 1)), (4, .ref (x + 205 + 2)), (5, .ref (x + 205 + 3)), (6, .ref (x + 205 + 4)), (7, .ref (x + 205 + 5)), (8, .ref (x + 205 + 6)), (9, vI x8), (11, vI v16), (14, vI r21)]) (fun x109 => [vI x109, vI r104]) (fun x109 hx109 => ?_) (fun j108 hj108 => ?_)
                            · refine s_icmp_eq (tgt := 731) hC dL_law_726 (by decide) hr104 hx109 ?_ ?_
                              · refine s_iload hC dL_law_731 11 rfl ?_
                                refine d_jp_D (V := VL G x) (15100 - (N + 1) * 490 + 98) (603000 - (N + 1) * 19800 + 3960) 745 ([(0, .ref bs), (1, .ref (x + 0)), (2, .ref (x + 205 + 0)), (3, .ref (x + 205 + 1)), (4, .ref (x + 205 + 2)), (5, .ref (x + 205 + 3)), (6, .ref (x + 205 + 4)), (7, .ref (x + 205 + 5)), (8, .ref (x + 205 + 6)), (9, vI x8), (11, vI v16), (14, vI r21)]) ([]) (fun σ111 B112 N113 τ114 hσ111 hB112 hN113 hτ114 => ?_) (fun j110 hj110 => ?_)
                                · refine s_aload_n hC dL_law_745 rfl 2 rfl ?_
                                  refine s_iconst hC dL_law_746 ?_
                                  refine s_dup2 hC dL_law_747 rfl rfl ?_
                                  refine s_iaload (b := x + 205) hC hK (fun H h => h.2) hτ114 (by decide) a_Tab_0 dL_law_748 (fun v115 hv115 => ?_)
                                  refine s_iload hC dL_law_749 11 rfl ?_
                                  refine d_jp_I (15100 - (N + 1) * 490 + 98) (603000 - (N + 1) * 19800 + 3960) 759 (fun x117 => [(0, .ref bs), (1, .ref (x + 0)), (2, .ref (x + 205 + 0)), (3, .ref (x + 205 + 1)), (4, .ref (x + 205 + 2)), (5, .ref (x + 205 + 3)), (6, .ref (x + 205 + 4)), (7, .ref (x + 205 + 5)), (8, .ref (x + 205 + 6)), (9, vI x8), (11, vI v16)]) (fun x117 => [vI x117, vI v115, vI 2, .ref (x + 205 + 0)]) (fun x117 hx117 => ?_) (fun j116 hj116 => ?_)
                                  · refine s_isub hC dL_law_759 ?_
                                    refine s_ck0 (fun v118 hv118 => ?_)
                                    refine s_iastore (b := x + 205) (J := fun τ => VL G x σ111 B112 N113 τ) hC hK VL.wd (fun q h => hAm q h) hτ114 hv118 (by decide) a_Tab_0 dL_law_760 (fun τ119 hτ119 => ?_)
                                    refine s_goto (tgt := 911) hC dL_law_761 (by decide) ?_
                                    refine s_widen (k' := 15100 - (N + 1) * 490 + 490) (n' := 603000 - (N + 1) * 19800 + 19800) (by omega) (by omega) ?_
                                    exact hj28 σ111 B112 N113 τ119 hσ111 hB112 hN113 hτ119
                                  · refine s_if_lt (tgt := 758) hC dL_law_751 (by decide) hr21 ?_ ?_
                                    · refine s_sub (L' := [(0, .ref bs), (1, .ref (x + 0)), (2, .ref (x + 205 + 0)), (3, .ref (x + 205 + 1)), (4, .ref (x + 205 + 2)), (5, .ref (x + 205 + 3)), (6, .ref (x + 205 + 4)), (7, .ref (x + 205 + 5)), (8, .ref (x + 205 + 6)), (9, vI x8), (11, vI v16)]) [0, 1, 2, 3, 4, 5, 6, 7, 8, 9, 10] rfl ?_
                                      refine s_iconst hC dL_law_758 ?_
                                      exact hj116 0 (inR_c _ rfl)
                                    · refine s_sub (L' := [(0, .ref bs), (1, .ref (x + 0)), (2, .ref (x + 205 + 0)), (3, .ref (x + 205 + 1)), (4, .ref (x + 205 + 2)), (5, .ref (x + 205 + 3)), (6, .ref (x + 205 + 4)), (7, .ref (x + 205 + 5)), (8, .ref (x + 205 + 6)), (9, vI x8), (11, vI v16)]) [0, 1, 2, 3, 4, 5, 6, 7, 8, 9, 10] rfl ?_
                                      refine s_iconst hC dL_law_754 ?_
                                      refine s_goto (tgt := 759) hC dL_law_755 (by decide) ?_
                                      exact hj116 1 (inR_c _ rfl)
                                · refine s_if_lt (tgt := 745) hC dL_law_733 (by decide) hr21 ?_ ?_
                                  · exact hj110 σ105 B106 N107 τ103 hσ105 hB106 hN107 hτ103
                                  · refine s_aload_n hC dL_law_736 rfl 3 rfl ?_
                                    refine s_iconst hC dL_law_737 ?_
                                    refine s_iload hC dL_law_738 11 rfl ?_
                                    refine s_imul hC dL_law_740 ?_
                                    refine s_iconst hC dL_law_741 ?_
                                    refine s_iadd hC dL_law_742 ?_
                                    refine s_iconst hC dL_law_743 ?_
                                    refine s_iastore (b := x + 205) (J := fun τ => VL G x σ105 B106 N107 τ) hC hK VL.wd (fun q h => hAm q h) hτ103 (inR_c _ rfl) (by decide) a_Tab_1 dL_law_744 (fun τ120 hτ120 => ?_)
                                    exact hj110 σ105 B106 N107 τ120 hσ105 hB106 hN107 hτ120
                              · refine s_sub (L' := []) [] rfl ?_
                                refine s_iconst hC dL_law_729 ?_
                                exact l_ret0
                            · refine s_if_ge (tgt := 724) hC dL_law_717 (by decide) hr21 ?_ ?_
                              · refine s_sub (L' := [(0, .ref bs), (1, .ref (x + 0)), (2, .ref (x + 205 + 0)), (3, .ref (x + 205 + 1)), (4, .ref (x + 205 + 2)), (5, .ref (x + 205 + 3)), (6, .ref (x + 205 + 4)), (7, .ref (x + 205 + 5)), (8, .ref (x + 205 + 6)), (9, vI x8), (11, vI v16), (14, vI r21), (15, vI x99)]) [0, 1, 2, 3, 4, 5, 6, 7, 8, 9, 10, 12, 13] rfl ?_
                                refine s_iload hC dL_law_724 12 rfl ?_
                                refine s_sub (L' := [(0, .ref bs), (1, .ref (x + 0)), (2, .ref (x + 205 + 0)), (3, .ref (x + 205 + 1)), (4, .ref (x + 205 + 2)), (5, .ref (x + 205 + 3)), (6, .ref (x + 205 + 4)), (7, .ref (x + 205 + 5)), (8, .ref (x + 205 + 6)), (9, vI x8), (11, vI v16), (14, vI r21)]) [0, 1, 2, 3, 4, 5, 6, 7, 8, 9, 10, 11] rfl ?_
                                exact hj108 x99 hx99
                              · refine s_sub (L' := [(0, .ref bs), (1, .ref (x + 0)), (2, .ref (x + 205 + 0)), (3, .ref (x + 205 + 1)), (4, .ref (x + 205 + 2)), (5, .ref (x + 205 + 3)), (6, .ref (x + 205 + 4)), (7, .ref (x + 205 + 5)), (8, .ref (x + 205 + 6)), (9, vI x8), (11, vI v16), (14, vI r21)]) [0, 1, 2, 3, 4, 5, 6, 7, 8, 9, 10, 12] rfl ?_
                                refine s_iconst hC dL_law_720 ?_
                                refine s_goto (tgt := 726) hC dL_law_721 (by decide) ?_
                                exact hj108 ((-1)) (inR_c _ rfl)
                          · refine d_lp_IID (V := VL G x) (F := g_L_law_L653 r21 j98) 653 (fun x121 x122 => [(0, .ref bs), (1, .ref (x + 0)), (2, .ref (x + 205 + 0)), (3, .ref (x + 205 + 1)), (4, .ref (x + 205 + 2)), (5, .ref (x + 205 + 3)), (6, .ref (x + 205 + 4)), (7, .ref (x + 205 + 5)), (8, .ref (x + 205 + 6)), (9, vI x8), (11, vI v16), (13, vI v20), (14, vI r21), (15, vI x121), (16, vI x122)]) (fun _ _ _ _ _ _ => rfl) (fun n ih653 x121 x122 σ123 B124 N125 τ126 hx121 hx122 hσ123 hB124 hN125 hτ126 => ?_) fu 0 v97 σ9 B10 N11 τ12 (inR_c _ rfl) hv97 hσ9 hB10 hN11 hτ12
                            rw [g_L_law_L653]
                            refine s_iload hC dL_law_653 14 rfl ?_
                            refine s_if_lt (tgt := 709) hC dL_law_655 (by decide) hx122 ?_ ?_
                            · refine s_sub (L' := [(0, .ref bs), (1, .ref (x + 0)), (2, .ref (x + 205 + 0)), (3, .ref (x + 205 + 1)), (4, .ref (x + 205 + 2)), (5, .ref (x + 205 + 3)), (6, .ref (x + 205 + 4)), (7, .ref (x + 205 + 5)), (8, .ref (x + 205 + 6)), (9, vI x8), (11, vI v16), (13, vI v20), (14, vI r21), (15, vI x121)]) [0, 1, 2, 3, 4, 5, 6, 7, 8, 9, 10, 11, 12, 13] rfl ?_
                              exact hj98 x121 σ123 B124 N125 τ126 hx121 hσ123 hB124 hN125 hτ126
                            · refine s_iload hC dL_law_658 12 rfl ?_
                              refine s_if_lt (tgt := 709) hC dL_law_660 (by decide) hr21 ?_ ?_
                              · refine s_sub (L' := [(0, .ref bs), (1, .ref (x + 0)), (2, .ref (x + 205 + 0)), (3, .ref (x + 205 + 1)), (4, .ref (x + 205 + 2)), (5, .ref (x + 205 + 3)), (6, .ref (x + 205 + 4)), (7, .ref (x + 205 + 5)), (8, .ref (x + 205 + 6)), (9, vI x8), (11, vI v16), (13, vI v20), (14, vI r21), (15, vI x121)]) [0, 1, 2, 3, 4, 5, 6, 7, 8, 9, 10, 11, 12, 13] rfl ?_
                                exact hj98 x121 σ123 B124 N125 τ126 hx121 hσ123 hB124 hN125 hτ126
                              · refine s_aload hC dL_law_663 4 rfl ?_
                                refine s_iload hC dL_law_665 14 rfl ?_
                                refine s_iaload (b := x + 205) hC hK (fun H h => h.2) hτ126 (by decide) a_Tab_2 dL_law_667 (fun v127 hv127 => ?_)
                                refine s_bipush hC dL_law_668 (by decide) ?_
                                refine s_ishr hC dL_law_670 ?_
                                refine s_bipush hC dL_law_671 (by decide) ?_
                                refine s_iand hC dL_law_673 ?_
                                refine s_iload hC dL_law_674 12 rfl ?_
                                refine d_jp_ID (V := VL G x) (15100 - (N + 1) * 490 + 0) (603000 - (N + 1) * 19800 + 0) 703 (fun x129 => [(0, .ref bs), (1, .ref (x + 0)), (2, .ref (x + 205 + 0)), (3, .ref (x + 205 + 1)), (4, .ref (x + 205 + 2)), (5, .ref (x + 205 + 3)), (6, .ref (x + 205 + 4)), (7, .ref (x + 205 + 5)), (8, .ref (x + 205 + 6)), (9, vI x8), (11, vI v16), (13, vI v20), (14, vI r21), (15, vI x129), (16, vI x122)]) (fun x129 => []) (fun x129 σ130 B131 N132 τ133 hx129 hσ130 hB131 hN132 hτ133 => ?_) (fun j128 hj128 => ?_)
                                · refine s_iincK hC dL_law_703 14 rfl (by decide) (fun v134 => [(16, vI v134), (0, .ref bs), (1, .ref (x + 0)), (2, .ref (x + 205 + 0)), (3, .ref (x + 205 + 1)), (4, .ref (x + 205 + 2)), (5, .ref (x + 205 + 3)), (6, .ref (x + 205 + 4)), (7, .ref (x + 205 + 5)), (8, .ref (x + 205 + 6)), (9, vI x8), (11, vI v16), (13, vI v20), (14, vI r21), (15, vI x129)]) (fun _ => rfl) (fun v134 hv134 => ?_)
                                  refine s_goto (tgt := 653) hC dL_law_706 (by decide) ?_
                                  refine s_sub (L' := [(0, .ref bs), (1, .ref (x + 0)), (2, .ref (x + 205 + 0)), (3, .ref (x + 205 + 1)), (4, .ref (x + 205 + 2)), (5, .ref (x + 205 + 3)), (6, .ref (x + 205 + 4)), (7, .ref (x + 205 + 5)), (8, .ref (x + 205 + 6)), (9, vI x8), (11, vI v16), (13, vI v20), (14, vI r21), (15, vI x129), (16, vI v134)]) [1, 2, 3, 4, 5, 6, 7, 8, 9, 10, 11, 12, 13, 14, 0] rfl ?_
                                  exact ih653 x129 v134 σ130 B131 N132 τ133 hx129 hv134 hσ130 hB131 hN132 hτ133
                                · refine s_icmp_eq (tgt := 682) hC dL_law_676 (by decide) (i32_in _) hr21 ?_ ?_
                                  · refine s_iload hC dL_law_682 13 rfl ?_
                                    refine s_aload hC dL_law_684 4 rfl ?_
                                    refine s_iload hC dL_law_686 14 rfl ?_
                                    refine s_iaload (b := x + 205) hC hK (fun H h => h.2) hτ126 (by decide) a_Tab_2 dL_law_688 (fun v135 hv135 => ?_)
                                    refine s_callS_P (As := [vI v135]) (rest := [vI x121]) hC hKA 1 (m_L_cells (I := (VL G x σ123 B124 N125 τ126)) hv135) rfl (cb_of hC 1 q_c_yL_cells q_i_L q_m_L_10 rfl rfl dd_yL_cells ⟨Nat.le_of_ble_eq_true rfl, Nat.le_of_ble_eq_true rfl⟩) q_s_yL_cells rfl (Nat.le_of_ble_eq_true rfl) dL_law_689 ⟨by show _ ≤ 600000; omega, by show _ ≤ 7302250; omega⟩ (fun r136 hr136 => ?_)
                                    refine s_iadd hC dL_law_692 ?_
                                    refine s_ck0 (fun v137 hv137 => ?_)
                                    refine s_istore (L' := [(15, vI v137), (0, .ref bs), (1, .ref (x + 0)), (2, .ref (x + 205 + 0)), (3, .ref (x + 205 + 1)), (4, .ref (x + 205 + 2)), (5, .ref (x + 205 + 3)), (6, .ref (x + 205 + 4)), (7, .ref (x + 205 + 5)), (8, .ref (x + 205 + 6)), (9, vI x8), (11, vI v16), (13, vI v20), (14, vI r21), (16, vI x122)]) hC dL_law_693 (by decide) rfl ?_
                                    refine s_iload hC dL_law_695 14 rfl ?_
                                    refine s_aload hC dL_law_697 5 rfl ?_
                                    refine s_aload_n hC dL_law_699 rfl 3 rfl ?_
                                    refine s_callS_U (J := fun τ => VL G x σ123 B124 N125 τ) (As := [vI x122, .ref (x + 205 + 2), .ref (x + 205 + 0)]) (rest := []) hC hKA 3 (m_L_drop (b := x + 205) (J := fun τ => VL G x σ123 B124 N125 τ) VL.wd hτ126 hx122 (by decide) a_Tab_2 (by decide) a_Tab_0) (fun q h => hAm q h) rfl (cb_of hC 3 q_c_yL_drop q_i_L q_m_L_30 rfl rfl dd_yL_drop ⟨Nat.le_of_ble_eq_true rfl, Nat.le_of_ble_eq_true rfl⟩) q_s_yL_drop rfl (Nat.le_of_ble_eq_true rfl) dL_law_700 ⟨by show _ ≤ 600000; omega, by show _ ≤ 7302250; omega⟩ (fun τ138 hτ138 => ?_)
                                    refine s_sub (L' := [(0, .ref bs), (1, .ref (x + 0)), (2, .ref (x + 205 + 0)), (3, .ref (x + 205 + 1)), (4, .ref (x + 205 + 2)), (5, .ref (x + 205 + 3)), (6, .ref (x + 205 + 4)), (7, .ref (x + 205 + 5)), (8, .ref (x + 205 + 6)), (9, vI x8), (11, vI v16), (13, vI v20), (14, vI r21), (15, vI v137), (16, vI x122)]) [1, 2, 3, 4, 5, 6, 7, 8, 9, 10, 11, 12, 13, 0, 14] rfl ?_
                                    exact hj128 v137 σ123 B124 N125 τ138 hv137 hσ123 hB124 hN125 hτ138
                                  · refine s_goto (tgt := 703) hC dL_law_679 (by decide) ?_
                                    exact hj128 x121 σ123 B124 N125 τ126 hx121 hσ123 hB124 hN125 hτ126
                  · refine s_sub (L' := [(0, .ref bs), (1, .ref (x + 0)), (2, .ref (x + 205 + 0)), (3, .ref (x + 205 + 1)), (4, .ref (x + 205 + 2)), (5, .ref (x + 205 + 3)), (6, .ref (x + 205 + 4)), (7, .ref (x + 205 + 5)), (8, .ref (x + 205 + 6)), (9, vI x8), (11, vI v16), (13, vI v20), (14, vI r21)]) [0, 1, 2, 3, 4, 5, 6, 7, 8, 9, 10, 12, 13] rfl ?_
                    exact hj40
            · refine s_sub (L' := [(0, .ref bs), (1, .ref (x + 0)), (2, .ref (x + 205 + 0)), (3, .ref (x + 205 + 1)), (4, .ref (x + 205 + 2)), (5, .ref (x + 205 + 3)), (6, .ref (x + 205 + 4)), (7, .ref (x + 205 + 5)), (8, .ref (x + 205 + 6)), (9, vI x8), (10, vI v14), (11, vI v16), (13, vI v20), (14, vI r21)]) [3, 4, 5, 6, 7, 8, 9, 10, 11, 12, 13, 14, 1, 0] rfl ?_
              refine s_iload hC dL_law_160 11 rfl ?_
              refine s_iload hC dL_law_162 10 rfl ?_
              refine s_bipush hC dL_law_164 (by decide) ?_
              refine s_ishr hC dL_law_166 ?_
              refine s_iconst hC dL_law_167 ?_
              refine s_callS_P (As := [vI (ishr v14 8), vI 3]) (rest := [vI v16]) hC hKA 2 (m_L_low (I := (VL G x σ9 B10 N11 τ12)) (i32_in _) (inR_c _ rfl)) rfl (cb_of hC 2 q_c_yL_low q_i_L q_m_L_88 rfl rfl dd_yL_low ⟨Nat.le_of_ble_eq_true rfl, Nat.le_of_ble_eq_true rfl⟩) q_s_yL_low rfl (Nat.le_of_ble_eq_true rfl) dL_law_168 ⟨by show _ ≤ 600000; omega, by show _ ≤ 7302250; omega⟩ (fun r139 hr139 => ?_)
              refine d_jp_I (15100 - (N + 1) * 490 + 0) (603000 - (N + 1) * 19800 + 0) 181 (fun x141 => [(0, .ref bs), (1, .ref (x + 0)), (2, .ref (x + 205 + 0)), (3, .ref (x + 205 + 1)), (4, .ref (x + 205 + 2)), (5, .ref (x + 205 + 3)), (6, .ref (x + 205 + 4)), (7, .ref (x + 205 + 5)), (8, .ref (x + 205 + 6)), (9, vI x8), (11, vI v16), (13, vI v20), (14, vI r21)]) (fun x141 => [vI x141, vI v16]) (fun x141 hx141 => ?_) (fun j140 hj140 => ?_)
              · refine s_callS_P (As := [vI v16, vI x141]) (rest := []) hC hKA 2 (m_L_low (I := (VL G x σ9 B10 N11 τ12)) hv16 hx141) rfl (cb_of hC 2 q_c_yL_low q_i_L q_m_L_88 rfl rfl dd_yL_low ⟨Nat.le_of_ble_eq_true rfl, Nat.le_of_ble_eq_true rfl⟩) q_s_yL_low rfl (Nat.le_of_ble_eq_true rfl) dL_law_181 ⟨by show _ ≤ 600000; omega, by show _ ≤ 7302250; omega⟩ (fun r142 hr142 => ?_)
                refine s_istore (L' := [(15, vI r142), (0, .ref bs), (1, .ref (x + 0)), (2, .ref (x + 205 + 0)), (3, .ref (x + 205 + 1)), (4, .ref (x + 205 + 2)), (5, .ref (x + 205 + 3)), (6, .ref (x + 205 + 4)), (7, .ref (x + 205 + 5)), (8, .ref (x + 205 + 6)), (9, vI x8), (11, vI v16), (13, vI v20), (14, vI r21)]) hC dL_law_184 (by decide) rfl ?_
                refine s_iload hC dL_law_186 13 rfl ?_
                refine d_jp_I (15100 - (N + 1) * 490 + 0) (603000 - (N + 1) * 19800 + 0) 196 (fun x144 => [(0, .ref bs), (1, .ref (x + 0)), (2, .ref (x + 205 + 0)), (3, .ref (x + 205 + 1)), (4, .ref (x + 205 + 2)), (5, .ref (x + 205 + 3)), (6, .ref (x + 205 + 4)), (7, .ref (x + 205 + 5)), (8, .ref (x + 205 + 6)), (9, vI x8), (11, vI v16), (13, vI v20), (14, vI r21), (15, vI r142)]) (fun x144 => [vI x144]) (fun x144 hx144 => ?_) (fun j143 hj143 => ?_)
                · refine s_istore (L' := [(16, vI x144), (0, .ref bs), (1, .ref (x + 0)), (2, .ref (x + 205 + 0)), (3, .ref (x + 205 + 1)), (4, .ref (x + 205 + 2)), (5, .ref (x + 205 + 3)), (6, .ref (x + 205 + 4)), (7, .ref (x + 205 + 5)), (8, .ref (x + 205 + 6)), (9, vI x8), (11, vI v16), (13, vI v20), (14, vI r21), (15, vI r142)]) hC dL_law_196 (by decide) rfl ?_
                  refine s_iconst hC dL_law_198 ?_
                  refine s_istore (L' := [(17, vI 0), (16, vI x144), (0, .ref bs), (1, .ref (x + 0)), (2, .ref (x + 205 + 0)), (3, .ref (x + 205 + 1)), (4, .ref (x + 205 + 2)), (5, .ref (x + 205 + 3)), (6, .ref (x + 205 + 4)), (7, .ref (x + 205 + 5)), (8, .ref (x + 205 + 6)), (9, vI x8), (11, vI v16), (13, vI v20), (14, vI r21), (15, vI r142)]) hC dL_law_199 (by decide) rfl ?_
                  refine s_sub (L' := [(0, .ref bs), (1, .ref (x + 0)), (2, .ref (x + 205 + 0)), (3, .ref (x + 205 + 1)), (4, .ref (x + 205 + 2)), (5, .ref (x + 205 + 3)), (6, .ref (x + 205 + 4)), (7, .ref (x + 205 + 5)), (8, .ref (x + 205 + 6)), (9, vI x8), (11, vI v16), (13, vI v20), (14, vI r21), (15, vI r142), (16, vI x144), (17, vI 0)]) [2, 3, 4, 5, 6, 7, 8, 9, 10, 11, 12, 13, 14, 15, 1, 0] rfl ?_
                  refine d_jp_I (15100 - (N + 1) * 490 + 0) (603000 - (N + 1) * 19800 + 0) 230 (fun x146 => [(0, .ref bs), (1, .ref (x + 0)), (2, .ref (x + 205 + 0)), (3, .ref (x + 205 + 1)), (4, .ref (x + 205 + 2)), (5, .ref (x + 205 + 3)), (6, .ref (x + 205 + 4)), (7, .ref (x + 205 + 5)), (8, .ref (x + 205 + 6)), (9, vI x8), (11, vI v16), (13, vI v20), (14, vI r21), (15, vI r142), (16, vI x144), (17, vI x146)]) (fun x146 => []) (fun x146 hx146 => ?_) (fun j145 hj145 => ?_)
                  · refine s_iload hC dL_law_230 14 rfl ?_
                    refine d_jp_ (15100 - (N + 1) * 490 + 0) (603000 - (N + 1) * 19800 + 0) 245 ([(0, .ref bs), (1, .ref (x + 0)), (2, .ref (x + 205 + 0)), (3, .ref (x + 205 + 1)), (4, .ref (x + 205 + 2)), (5, .ref (x + 205 + 3)), (6, .ref (x + 205 + 4)), (7, .ref (x + 205 + 5)), (8, .ref (x + 205 + 6)), (9, vI x8), (11, vI v16), (13, vI v20), (14, vI r21), (15, vI r142), (16, vI x144), (17, vI x146)]) ([]) ?_ (fun j147 hj147 => ?_)
                    · refine s_iload hC dL_law_245 14 rfl ?_
                      refine d_jp_I (15100 - (N + 1) * 490 + 0) (603000 - (N + 1) * 19800 + 0) 257 (fun x149 => [(0, .ref bs), (1, .ref (x + 0)), (2, .ref (x + 205 + 0)), (3, .ref (x + 205 + 1)), (4, .ref (x + 205 + 2)), (5, .ref (x + 205 + 3)), (6, .ref (x + 205 + 4)), (7, .ref (x + 205 + 5)), (8, .ref (x + 205 + 6)), (9, vI x8), (11, vI v16), (13, vI v20), (15, vI r142), (16, vI x144)]) (fun x149 => [vI x149]) (fun x149 hx149 => ?_) (fun j148 hj148 => ?_)
                      · refine s_istore (L' := [(14, vI x149), (0, .ref bs), (1, .ref (x + 0)), (2, .ref (x + 205 + 0)), (3, .ref (x + 205 + 1)), (4, .ref (x + 205 + 2)), (5, .ref (x + 205 + 3)), (6, .ref (x + 205 + 4)), (7, .ref (x + 205 + 5)), (8, .ref (x + 205 + 6)), (9, vI x8), (11, vI v16), (13, vI v20), (15, vI r142), (16, vI x144)]) hC dL_law_257 (by decide) rfl ?_
                        refine s_aload_n hC dL_law_259 rfl 2 rfl ?_
                        refine u_up4 (V := fun σ B nb => VL G x σ B nb τ12) (As := []) (rest := []) (a := x + 0) (mc := 0) (ms := 0) hC hKA 0 (m_X4_wipe (x := x) (y0 := x + 212) (V := fun σ B nb => VL G x σ B nb τ12) (by omega) VL.wv hσ9 hB10 hN11) (fun q h => hAx q h) rfl (cb_of hC 0 q_c_yX4_wipe q_i_X4 q_m_L_114 rfl rfl dd_yX4_wipe ⟨Nat.le_of_ble_eq_true rfl, Nat.le_of_ble_eq_true rfl⟩) q_i_yX4_wipe q_x_yX4_wipe (s_recv hK (fun H h => (VL.wv.1 _ _ _ _ h).x) (by decide) o_X rfl) rfl (Nat.le_of_ble_eq_true rfl) dL_law_260 ⟨by show _ ≤ 600000; omega, by show _ ≤ 7302250; omega⟩ (fun r150 σ151 B152 N153 hr150 hσ151 hB152 hN153 => ?_)
                        refine s_pop hC rfl dL_law_263 ?_
                        refine s_iload hC dL_law_264 12 rfl ?_
                        refine s_bipush hC dL_law_266 (by decide) ?_
                        refine d_jp_ID (V := VL G x) (15100 - (N + 1) * 490 + 0) (603000 - (N + 1) * 19800 + 0) 329 (fun x155 => [(0, .ref bs), (1, .ref (x + 0)), (2, .ref (x + 205 + 0)), (3, .ref (x + 205 + 1)), (4, .ref (x + 205 + 2)), (5, .ref (x + 205 + 3)), (6, .ref (x + 205 + 4)), (7, .ref (x + 205 + 5)), (8, .ref (x + 205 + 6)), (9, vI x8), (11, vI v16), (13, vI v20), (14, vI x149), (15, vI r142), (16, vI x144)]) (fun x155 => [vI x155]) (fun x155 σ156 B157 N158 τ159 hx155 hσ156 hB157 hN158 hτ159 => ?_) (fun j154 hj154 => ?_)
                        · refine s_istore (L' := [(18, vI x155), (0, .ref bs), (1, .ref (x + 0)), (2, .ref (x + 205 + 0)), (3, .ref (x + 205 + 1)), (4, .ref (x + 205 + 2)), (5, .ref (x + 205 + 3)), (6, .ref (x + 205 + 4)), (7, .ref (x + 205 + 5)), (8, .ref (x + 205 + 6)), (9, vI x8), (11, vI v16), (13, vI v20), (14, vI x149), (15, vI r142), (16, vI x144)]) hC dL_law_329 (by decide) rfl ?_
                          refine s_iload hC dL_law_331 0 rfl ?_
                          refine s_if_eq (tgt := 347) hC dL_law_333 (by decide) hx155 ?_ ?_
                          · refine s_sub (L' := []) [] rfl ?_
                            refine s_iconst hC dL_law_347 ?_
                            exact l_ret0
                          · refine s_sub (L' := [(0, .ref bs), (1, .ref (x + 0)), (2, .ref (x + 205 + 0)), (3, .ref (x + 205 + 1)), (4, .ref (x + 205 + 2)), (5, .ref (x + 205 + 3)), (6, .ref (x + 205 + 4)), (7, .ref (x + 205 + 5)), (8, .ref (x + 205 + 6)), (9, vI x8), (11, vI v16), (13, vI v20), (14, vI x149), (15, vI r142), (16, vI x144)]) [1, 2, 3, 4, 5, 6, 7, 8, 9, 10, 11, 12, 13, 14, 15] rfl ?_
                            refine s_aload_n hC dL_law_336 rfl 1 rfl ?_
                            refine s_ldc2 hC q_k_L_121 dL_law_337 ?_
                            refine u_up4 (V := fun σ B nb => VL G x σ B nb τ159) (As := [.long ((61 : Int64))]) (rest := []) (a := x + 0) (mc := 0) (ms := 0) hC hKA 1 (m_X4_put (x := x) (y0 := x + 212) (V := fun σ B nb => VL G x σ B nb τ159) (by omega) VL.wv hσ156 hB157 hN158) (fun q h => hAx q h) rfl (cb_of hC 1 q_c_yX4_put q_i_X4 q_m_L_117 rfl rfl dd_yX4_put ⟨Nat.le_of_ble_eq_true rfl, Nat.le_of_ble_eq_true rfl⟩) q_i_yX4_put q_x_yX4_put (s_recv hK (fun H h => (VL.wv.1 _ _ _ _ h).x) (by decide) o_X rfl) rfl (Nat.le_of_ble_eq_true rfl) dL_law_340 ⟨by show _ ≤ 600000; omega, by show _ ≤ 7302250; omega⟩ (fun r160 σ161 B162 N163 hr160 hσ161 hB162 hN163 => ?_)
                            refine s_iconst hC dL_law_343 ?_
                            refine s_icmp_ge (tgt := 349) hC dL_law_344 (by decide) hr160 (inR_c _ rfl) ?_ ?_
                            · refine s_aload hC dL_law_349 8 rfl ?_
                              refine s_iconst hC dL_law_351 ?_
                              refine s_iload hC dL_law_352 12 rfl ?_
                              refine s_imul hC dL_law_354 ?_
                              refine s_lconst (v := 0) hC dL_law_355 rfl ?_
                              refine s_lastore (b := x + 205) (J := fun τ => VL G x σ161 B162 N163 τ) hC hK VL.wd (fun q h => hAm q h) hτ159 (by decide) l_Tab_6 dL_law_356 (fun τ164 hτ164 => ?_)
                              refine s_aload hC dL_law_357 8 rfl ?_
                              refine s_iconst hC dL_law_359 ?_
                              refine s_iload hC dL_law_360 12 rfl ?_
                              refine s_imul hC dL_law_362 ?_
                              refine s_iconst hC dL_law_363 ?_
                              refine s_iadd hC dL_law_364 ?_
                              refine s_lconst (v := 0) hC dL_law_365 rfl ?_
                              refine s_lastore (b := x + 205) (J := fun τ => VL G x σ161 B162 N163 τ) hC hK VL.wd (fun q h => hAm q h) hτ164 (by decide) l_Tab_6 dL_law_366 (fun τ165 hτ165 => ?_)
                              refine s_iconst hC dL_law_367 ?_
                              refine s_istore (L' := [(19, vI 0), (0, .ref bs), (1, .ref (x + 0)), (2, .ref (x + 205 + 0)), (3, .ref (x + 205 + 1)), (4, .ref (x + 205 + 2)), (5, .ref (x + 205 + 3)), (6, .ref (x + 205 + 4)), (7, .ref (x + 205 + 5)), (8, .ref (x + 205 + 6)), (9, vI x8), (11, vI v16), (13, vI v20), (14, vI x149), (15, vI r142), (16, vI x144)]) hC dL_law_368 (by decide) rfl ?_
                              refine s_sub (L' := [(0, .ref bs), (1, .ref (x + 0)), (2, .ref (x + 205 + 0)), (3, .ref (x + 205 + 1)), (4, .ref (x + 205 + 2)), (5, .ref (x + 205 + 3)), (6, .ref (x + 205 + 4)), (7, .ref (x + 205 + 5)), (8, .ref (x + 205 + 6)), (9, vI x8), (11, vI v16), (13, vI v20), (14, vI x149), (15, vI r142), (16, vI x144), (19, vI 0)]) [1, 2, 3, 4, 5, 6, 7, 8, 9, 10, 11, 12, 13, 14, 15, 0] rfl ?_
                              refine d_jp_D (V := VL G x) (15100 - (N + 1) * 490 + 0) (603000 - (N + 1) * 19800 + 0) 443 ([(0, .ref bs), (1, .ref (x + 0)), (2, .ref (x + 205 + 0)), (3, .ref (x + 205 + 1)), (4, .ref (x + 205 + 2)), (5, .ref (x + 205 + 3)), (6, .ref (x + 205 + 4)), (7, .ref (x + 205 + 5)), (8, .ref (x + 205 + 6)), (9, vI x8), (11, vI v16), (13, vI v20), (14, vI x149), (15, vI r142), (16, vI x144)]) ([]) (fun σ167 B168 N169 τ170 hσ167 hB168 hN169 hτ170 => ?_) (fun j166 hj166 => ?_)
                              · refine s_aload_n hC dL_law_443 rfl 3 rfl ?_
                                refine s_iconst hC dL_law_444 ?_
                                refine s_iload hC dL_law_445 12 rfl ?_
                                refine s_imul hC dL_law_447 ?_
                                refine s_iload hC dL_law_448 11 rfl ?_
                                refine s_iastore (b := x + 205) (J := fun τ => VL G x σ167 B168 N169 τ) hC hK VL.wd (fun q h => hAm q h) hτ170 hv20 (by decide) a_Tab_1 dL_law_450 (fun τ171 hτ171 => ?_)
                                refine s_aload_n hC dL_law_451 rfl 2 rfl ?_
                                refine s_iconst hC dL_law_452 ?_
                                refine s_dup2 hC dL_law_453 rfl rfl ?_
                                refine s_iaload (b := x + 205) hC hK (fun H h => h.2) hτ171 (by decide) a_Tab_0 dL_law_454 (fun v172 hv172 => ?_)
                                refine s_iload hC dL_law_455 14 rfl ?_
                                refine d_jp_I (15100 - (N + 1) * 490 + 0) (603000 - (N + 1) * 19800 + 0) 465 (fun x174 => [(0, .ref bs), (1, .ref (x + 0)), (2, .ref (x + 205 + 0)), (3, .ref (x + 205 + 1)), (4, .ref (x + 205 + 2)), (5, .ref (x + 205 + 3)), (6, .ref (x + 205 + 4)), (7, .ref (x + 205 + 5)), (8, .ref (x + 205 + 6)), (9, vI x8), (11, vI v16), (14, vI x149), (15, vI r142), (16, vI x144)]) (fun x174 => [vI x174, vI v172, vI 2, .ref (x + 205 + 0)]) (fun x174 hx174 => ?_) (fun j173 hj173 => ?_)
                                · refine s_iadd hC dL_law_465 ?_
                                  refine s_ck0 (fun v175 hv175 => ?_)
                                  refine s_iastore (b := x + 205) (J := fun τ => VL G x σ167 B168 N169 τ) hC hK VL.wd (fun q h => hAm q h) hτ171 hv175 (by decide) a_Tab_0 dL_law_466 (fun τ176 hτ176 => ?_)
                                  refine s_iload hC dL_law_467 11 rfl ?_
                                  refine s_iload hC dL_law_469 12 rfl ?_
                                  refine s_iload hC dL_law_471 13 rfl ?_
                                  refine s_aload_n hC dL_law_473 rfl 2 rfl ?_
                                  refine s_aload_n hC dL_law_474 rfl 3 rfl ?_
                                  refine s_aload hC dL_law_475 4 rfl ?_
                                  refine s_callS_W (J := fun τ => VL G x σ167 B168 N169 τ) (As := [vI x149, vI r142, vI x144, .ref (x + 205 + 0), .ref (x + 205 + 1), .ref (x + 205 + 2)]) (rest := []) hC hKA 6 (m_L_write (b := x + 205) (J := fun τ => VL G x σ167 B168 N169 τ) VL.wd hτ176 hx149 hr142 hx144 (by decide) a_Tab_0 (by decide) a_Tab_1 (by decide) a_Tab_2) (fun q h => hAm q h) rfl (cb_of hC 6 q_c_yL_write q_i_L q_m_L_42 rfl rfl dd_yL_write ⟨Nat.le_of_ble_eq_true rfl, Nat.le_of_ble_eq_true rfl⟩) q_s_yL_write rfl (Nat.le_of_ble_eq_true rfl) dL_law_477 ⟨by show _ ≤ 600000; omega, by show _ ≤ 7302250; omega⟩ (fun r178 τ177 hr178 hτ177 => ?_)
                                  refine s_if_eq (tgt := 491) hC dL_law_480 (by decide) hr178 ?_ ?_
                                  · refine s_sub (L' := []) [] rfl ?_
                                    refine s_iconst hC dL_law_491 ?_
                                    exact l_ret0
                                  · refine s_sub (L' := [(0, .ref bs), (1, .ref (x + 0)), (2, .ref (x + 205 + 0)), (3, .ref (x + 205 + 1)), (4, .ref (x + 205 + 2)), (5, .ref (x + 205 + 3)), (6, .ref (x + 205 + 4)), (7, .ref (x + 205 + 5)), (8, .ref (x + 205 + 6)), (9, vI x8), (11, vI v16)]) [0, 1, 2, 3, 4, 5, 6, 7, 8, 9, 10] rfl ?_
                                    refine s_aload_n hC dL_law_483 rfl 1 rfl ?_
                                    refine u_up4 (V := fun σ B nb => VL G x σ B nb τ177) (As := []) (rest := []) (a := x + 0) (mc := 98) (ms := 3960) hC hKA 0 (m_X4_write (x := x) (y0 := x + 212) (V := fun σ B nb => VL G x σ B nb τ177) (by omega) VL.wv hσ167 hB168 hN169) (fun q h => hAx q h) rfl (cb_of hC 0 q_c_yX4_write q_i_X4 q_m_L_123 rfl rfl dd_yX4_write ⟨Nat.le_of_ble_eq_true rfl, Nat.le_of_ble_eq_true rfl⟩) q_i_yX4_write q_x_yX4_write (s_recv hK (fun H h => (VL.wv.1 _ _ _ _ h).x) (by decide) o_X rfl) rfl (Nat.le_of_ble_eq_true rfl) dL_law_484 ⟨by show _ ≤ 600000; omega, by show _ ≤ 7302250; omega⟩ (fun r179 σ180 B181 N182 hr179 hσ180 hB181 hN182 => ?_)
                                    refine s_iconst hC dL_law_487 ?_
                                    refine s_icmp_eq (tgt := 493) hC dL_law_488 (by decide) hr179 (inR_c _ rfl) ?_ ?_
                                    · refine s_goto (tgt := 911) hC dL_law_493 (by decide) ?_
                                      refine s_widen (k' := 15100 - (N + 1) * 490 + 490) (n' := 603000 - (N + 1) * 19800 + 19800) (by omega) (by omega) ?_
                                      exact hj28 σ180 B181 N182 τ177 hσ180 hB181 hN182 hτ177
                                    · refine s_sub (L' := []) [] rfl ?_
                                      refine s_iconst hC dL_law_491 ?_
                                      exact l_ret0
                                · refine s_if_eq (tgt := 464) hC dL_law_457 (by decide) hx144 ?_ ?_
                                  · refine s_sub (L' := [(0, .ref bs), (1, .ref (x + 0)), (2, .ref (x + 205 + 0)), (3, .ref (x + 205 + 1)), (4, .ref (x + 205 + 2)), (5, .ref (x + 205 + 3)), (6, .ref (x + 205 + 4)), (7, .ref (x + 205 + 5)), (8, .ref (x + 205 + 6)), (9, vI x8), (11, vI v16), (14, vI x149), (15, vI r142), (16, vI x144)]) [0, 1, 2, 3, 4, 5, 6, 7, 8, 9, 10, 12, 13, 14] rfl ?_
                                    refine s_iconst hC dL_law_464 ?_
                                    exact hj173 0 (inR_c _ rfl)
                                  · refine s_sub (L' := [(0, .ref bs), (1, .ref (x + 0)), (2, .ref (x + 205 + 0)), (3, .ref (x + 205 + 1)), (4, .ref (x + 205 + 2)), (5, .ref (x + 205 + 3)), (6, .ref (x + 205 + 4)), (7, .ref (x + 205 + 5)), (8, .ref (x + 205 + 6)), (9, vI x8), (11, vI v16), (14, vI x149), (15, vI r142), (16, vI x144)]) [0, 1, 2, 3, 4, 5, 6, 7, 8, 9, 10, 12, 13, 14] rfl ?_
                                    refine s_iconst hC dL_law_460 ?_
                                    refine s_goto (tgt := 465) hC dL_law_461 (by decide) ?_
                                    exact hj173 1 (inR_c _ rfl)
                              · refine d_lp_ID (V := VL G x) (F := g_L_law_L370 v16 r142 x149 j166) 370 (fun x183 => [(0, .ref bs), (1, .ref (x + 0)), (2, .ref (x + 205 + 0)), (3, .ref (x + 205 + 1)), (4, .ref (x + 205 + 2)), (5, .ref (x + 205 + 3)), (6, .ref (x + 205 + 4)), (7, .ref (x + 205 + 5)), (8, .ref (x + 205 + 6)), (9, vI x8), (11, vI v16), (13, vI v20), (14, vI x149), (15, vI r142), (16, vI x144), (19, vI x183)]) (fun _ _ _ _ _ => rfl) (fun n ih370 x183 σ184 B185 N186 τ187 hx183 hσ184 hB185 hN186 hτ187 => ?_) fu 0 σ161 B162 N163 τ165 (inR_c _ rfl) hσ161 hB162 hN163 hτ165
                                rw [g_L_law_L370]
                                refine s_iload hC dL_law_370 15 rfl ?_
                                refine s_iload hC dL_law_372 13 rfl ?_
                                refine s_icmp_ge (tgt := 443) hC dL_law_374 (by decide) hx183 hr142 ?_ ?_
                                · refine s_sub (L' := [(0, .ref bs), (1, .ref (x + 0)), (2, .ref (x + 205 + 0)), (3, .ref (x + 205 + 1)), (4, .ref (x + 205 + 2)), (5, .ref (x + 205 + 3)), (6, .ref (x + 205 + 4)), (7, .ref (x + 205 + 5)), (8, .ref (x + 205 + 6)), (9, vI x8), (11, vI v16), (13, vI v20), (14, vI x149), (15, vI r142), (16, vI x144)]) [0, 1, 2, 3, 4, 5, 6, 7, 8, 9, 10, 11, 12, 13, 14] rfl ?_
                                  exact hj166 σ184 B185 N186 τ187 hσ184 hB185 hN186 hτ187
                                · refine s_iload hC dL_law_377 10 rfl ?_
                                  refine s_iload hC dL_law_379 15 rfl ?_
                                  refine s_bipush hC dL_law_381 (by decide) ?_
                                  refine s_irem hC dL_law_383 hx183 (inR_c _ rfl) (by decide) (fun v188 hv188 => ?_)
                                  refine s_iconst hC dL_law_384 ?_
                                  refine s_iadd hC dL_law_385 ?_
                                  refine s_ishr hC dL_law_386 ?_
                                  refine s_bipush hC dL_law_387 (by decide) ?_
                                  refine s_callS_P (As := [vI (ishr v16 (v188 + 1)), vI 26]) (rest := []) hC hKA 2 (m_L_low (I := (VL G x σ184 B185 N186 τ187)) (i32_in _) (inR_c _ rfl)) rfl (cb_of hC 2 q_c_yL_low q_i_L q_m_L_88 rfl rfl dd_yL_low ⟨Nat.le_of_ble_eq_true rfl, Nat.le_of_ble_eq_true rfl⟩) q_s_yL_low rfl (Nat.le_of_ble_eq_true rfl) dL_law_389 ⟨by show _ ≤ 600000; omega, by show _ ≤ 7302250; omega⟩ (fun r189 hr189 => ?_)
                                  refine s_istore (L' := [(20, vI r189), (0, .ref bs), (1, .ref (x + 0)), (2, .ref (x + 205 + 0)), (3, .ref (x + 205 + 1)), (4, .ref (x + 205 + 2)), (5, .ref (x + 205 + 3)), (6, .ref (x + 205 + 4)), (7, .ref (x + 205 + 5)), (8, .ref (x + 205 + 6)), (9, vI x8), (11, vI v16), (13, vI v20), (14, vI x149), (15, vI r142), (16, vI x144), (19, vI x183)]) hC dL_law_392 (by decide) rfl ?_
                                  refine s_aload hC dL_law_394 9 rfl ?_
                                  refine s_iconst hC dL_law_396 ?_
                                  refine s_iload hC dL_law_397 13 rfl ?_
                                  refine s_imul hC dL_law_399 ?_
                                  refine s_iload hC dL_law_400 16 rfl ?_
                                  refine s_bipush hC dL_law_402 (by decide) ?_
                                  refine s_idiv hC dL_law_404 hx183 (inR_c _ rfl) (by decide) (fun v190 hv190 => ?_)
                                  refine s_iadd hC dL_law_405 ?_
                                  refine s_dup2 hC dL_law_406 rfl rfl ?_
                                  refine s_laload (b := x + 205) hC hK (fun H h => h.2) (by decide) l_Tab_6 dL_law_407 (fun l191 => ?_)
                                  refine s_iload hC dL_law_408 0 rfl ?_
                                  refine s_i2l hC dL_law_410 ?_
                                  refine s_iconst hC dL_law_411 ?_
                                  refine s_iload hC dL_law_412 16 rfl ?_
                                  refine s_bipush hC dL_law_414 (by decide) ?_
                                  refine s_irem hC dL_law_416 hx183 (inR_c _ rfl) (by decide) (fun v192 hv192 => ?_)
                                  refine s_imul hC dL_law_417 ?_
                                  refine s_lshl hC dL_law_418 ?_
                                  refine s_lor hC dL_law_419 ?_
                                  refine s_lastore (b := x + 205) (J := fun τ => VL G x σ184 B185 N186 τ) hC hK VL.wd (fun q h => hAm q h) hτ187 (by decide) l_Tab_6 dL_law_420 (fun τ193 hτ193 => ?_)
                                  refine s_aload_n hC dL_law_421 rfl 2 rfl ?_
                                  refine s_bipush hC dL_law_422 (by decide) ?_
                                  refine s_iload hC dL_law_424 0 rfl ?_
                                  refine s_iadd hC dL_law_426 ?_
                                  refine s_i2l hC dL_law_427 ?_
                                  refine u_up4 (V := fun σ B nb => VL G x σ B nb τ193) (As := [.long (i2l (97 + r189))]) (rest := []) (a := x + 0) (mc := 0) (ms := 0) hC hKA 1 (m_X4_put (x := x) (y0 := x + 212) (V := fun σ B nb => VL G x σ B nb τ193) (by omega) VL.wv hσ184 hB185 hN186) (fun q h => hAx q h) rfl (cb_of hC 1 q_c_yX4_put q_i_X4 q_m_L_117 rfl rfl dd_yX4_put ⟨Nat.le_of_ble_eq_true rfl, Nat.le_of_ble_eq_true rfl⟩) q_i_yX4_put q_x_yX4_put (s_recv hK (fun H h => (VL.wv.1 _ _ _ _ h).x) (by decide) o_X rfl) rfl (Nat.le_of_ble_eq_true rfl) dL_law_428 ⟨by show _ ≤ 600000; omega, by show _ ≤ 7302250; omega⟩ (fun r194 σ195 B196 N197 hr194 hσ195 hB196 hN197 => ?_)
                                  refine s_iconst hC dL_law_431 ?_
                                  refine s_icmp_ge (tgt := 437) hC dL_law_432 (by decide) hr194 (inR_c _ rfl) ?_ ?_
                                  · refine s_sub (L' := [(0, .ref bs), (1, .ref (x + 0)), (2, .ref (x + 205 + 0)), (3, .ref (x + 205 + 1)), (4, .ref (x + 205 + 2)), (5, .ref (x + 205 + 3)), (6, .ref (x + 205 + 4)), (7, .ref (x + 205 + 5)), (8, .ref (x + 205 + 6)), (9, vI x8), (11, vI v16), (13, vI v20), (14, vI x149), (15, vI r142), (16, vI x144), (19, vI x183)]) [1, 2, 3, 4, 5, 6, 7, 8, 9, 10, 11, 12, 13, 14, 15, 16] rfl ?_
                                    refine s_iincK hC dL_law_437 15 rfl (by decide) (fun v198 => [(19, vI v198), (0, .ref bs), (1, .ref (x + 0)), (2, .ref (x + 205 + 0)), (3, .ref (x + 205 + 1)), (4, .ref (x + 205 + 2)), (5, .ref (x + 205 + 3)), (6, .ref (x + 205 + 4)), (7, .ref (x + 205 + 5)), (8, .ref (x + 205 + 6)), (9, vI x8), (11, vI v16), (13, vI v20), (14, vI x149), (15, vI r142), (16, vI x144)]) (fun _ => rfl) (fun v198 hv198 => ?_)
                                    refine s_goto (tgt := 370) hC dL_law_440 (by decide) ?_
                                    refine s_sub (L' := [(0, .ref bs), (1, .ref (x + 0)), (2, .ref (x + 205 + 0)), (3, .ref (x + 205 + 1)), (4, .ref (x + 205 + 2)), (5, .ref (x + 205 + 3)), (6, .ref (x + 205 + 4)), (7, .ref (x + 205 + 5)), (8, .ref (x + 205 + 6)), (9, vI x8), (11, vI v16), (13, vI v20), (14, vI x149), (15, vI r142), (16, vI x144), (19, vI v198)]) [1, 2, 3, 4, 5, 6, 7, 8, 9, 10, 11, 12, 13, 14, 15, 0] rfl ?_
                                    exact ih370 v198 σ195 B196 N197 τ193 hv198 hσ195 hB196 hN197 hτ193
                                  · refine s_sub (L' := []) [] rfl ?_
                                    refine s_iconst hC dL_law_435 ?_
                                    exact l_ret0
                            · refine s_sub (L' := []) [] rfl ?_
                              refine s_iconst hC dL_law_347 ?_
                              exact l_ret0
                        · refine s_icmp_le (tgt := 311) hC dL_law_268 (by decide) hv20 (inR_c _ rfl) ?_ ?_
                          · refine s_sub (L' := [(0, .ref bs), (1, .ref (x + 0)), (2, .ref (x + 205 + 0)), (3, .ref (x + 205 + 1)), (4, .ref (x + 205 + 2)), (5, .ref (x + 205 + 3)), (6, .ref (x + 205 + 4)), (7, .ref (x + 205 + 5)), (8, .ref (x + 205 + 6)), (9, vI x8), (11, vI v16), (13, vI v20), (14, vI x149), (15, vI r142), (16, vI x144)]) [1, 2, 3, 4, 5, 6, 7, 8, 9, 10, 11, 12, 0, 13, 14] rfl ?_
                            refine s_aload_n hC dL_law_311 rfl 1 rfl ?_
                            refine s_bipush hC dL_law_312 (by decide) ?_
                            refine s_iload hC dL_law_314 11 rfl ?_
                            refine s_iadd hC dL_law_316 ?_
                            refine s_i2l hC dL_law_317 ?_
                            refine u_up4 (V := fun σ B nb => VL G x σ B nb τ12) (As := [.long (i2l (48 + v20))]) (rest := []) (a := x + 0) (mc := 0) (ms := 0) hC hKA 1 (m_X4_put (x := x) (y0 := x + 212) (V := fun σ B nb => VL G x σ B nb τ12) (by omega) VL.wv hσ151 hB152 hN153) (fun q h => hAx q h) rfl (cb_of hC 1 q_c_yX4_put q_i_X4 q_m_L_117 rfl rfl dd_yX4_put ⟨Nat.le_of_ble_eq_true rfl, Nat.le_of_ble_eq_true rfl⟩) q_i_yX4_put q_x_yX4_put (s_recv hK (fun H h => (VL.wv.1 _ _ _ _ h).x) (by decide) o_X rfl) rfl (Nat.le_of_ble_eq_true rfl) dL_law_318 ⟨by show _ ≤ 600000; omega, by show _ ≤ 7302250; omega⟩ (fun r199 σ200 B201 N202 hr199 hσ200 hB201 hN202 => ?_)
                            refine s_if_le (tgt := 328) hC dL_law_321 (by decide) hr199 ?_ ?_
                            · refine s_iconst hC dL_law_328 ?_
                              exact hj154 0 σ200 B201 N202 τ12 (inR_c _ rfl) hσ200 hB201 hN202 hτ12
                            · refine s_iconst hC dL_law_324 ?_
                              refine s_goto (tgt := 329) hC dL_law_325 (by decide) ?_
                              exact hj154 1 σ200 B201 N202 τ12 (inR_c _ rfl) hσ200 hB201 hN202 hτ12
                          · refine s_sub (L' := [(0, .ref bs), (1, .ref (x + 0)), (2, .ref (x + 205 + 0)), (3, .ref (x + 205 + 1)), (4, .ref (x + 205 + 2)), (5, .ref (x + 205 + 3)), (6, .ref (x + 205 + 4)), (7, .ref (x + 205 + 5)), (8, .ref (x + 205 + 6)), (9, vI x8), (11, vI v16), (13, vI v20), (14, vI x149), (15, vI r142), (16, vI x144)]) [1, 2, 3, 4, 5, 6, 7, 8, 9, 10, 11, 12, 0, 13, 14] rfl ?_
                            refine s_aload_n hC dL_law_271 rfl 1 rfl ?_
                            refine s_bipush hC dL_law_272 (by decide) ?_
                            refine s_iload hC dL_law_274 11 rfl ?_
                            refine s_bipush hC dL_law_276 (by decide) ?_
                            refine s_idiv hC dL_law_278 hv20 (inR_c _ rfl) (by decide) (fun v203 hv203 => ?_)
                            refine s_iadd hC dL_law_279 ?_
                            refine s_i2l hC dL_law_280 ?_
                            refine u_up4 (V := fun σ B nb => VL G x σ B nb τ12) (As := [.long (i2l (48 + v203))]) (rest := []) (a := x + 0) (mc := 0) (ms := 0) hC hKA 1 (m_X4_put (x := x) (y0 := x + 212) (V := fun σ B nb => VL G x σ B nb τ12) (by omega) VL.wv hσ151 hB152 hN153) (fun q h => hAx q h) rfl (cb_of hC 1 q_c_yX4_put q_i_X4 q_m_L_117 rfl rfl dd_yX4_put ⟨Nat.le_of_ble_eq_true rfl, Nat.le_of_ble_eq_true rfl⟩) q_i_yX4_put q_x_yX4_put (s_recv hK (fun H h => (VL.wv.1 _ _ _ _ h).x) (by decide) o_X rfl) rfl (Nat.le_of_ble_eq_true rfl) dL_law_281 ⟨by show _ ≤ 600000; omega, by show _ ≤ 7302250; omega⟩ (fun r204 σ205 B206 N207 hr204 hσ205 hB206 hN207 => ?_)
                            refine s_if_le (tgt := 307) hC dL_law_284 (by decide) hr204 ?_ ?_
                            · refine s_iconst hC dL_law_307 ?_
                              refine s_goto (tgt := 329) hC dL_law_308 (by decide) ?_
                              exact hj154 0 σ205 B206 N207 τ12 (inR_c _ rfl) hσ205 hB206 hN207 hτ12
                            · refine s_aload_n hC dL_law_287 rfl 1 rfl ?_
                              refine s_bipush hC dL_law_288 (by decide) ?_
                              refine s_iload hC dL_law_290 11 rfl ?_
                              refine s_bipush hC dL_law_292 (by decide) ?_
                              refine s_irem hC dL_law_294 hv20 (inR_c _ rfl) (by decide) (fun v208 hv208 => ?_)
                              refine s_iadd hC dL_law_295 ?_
                              refine s_i2l hC dL_law_296 ?_
                              refine u_up4 (V := fun σ B nb => VL G x σ B nb τ12) (As := [.long (i2l (48 + v208))]) (rest := []) (a := x + 0) (mc := 0) (ms := 0) hC hKA 1 (m_X4_put (x := x) (y0 := x + 212) (V := fun σ B nb => VL G x σ B nb τ12) (by omega) VL.wv hσ205 hB206 hN207) (fun q h => hAx q h) rfl (cb_of hC 1 q_c_yX4_put q_i_X4 q_m_L_117 rfl rfl dd_yX4_put ⟨Nat.le_of_ble_eq_true rfl, Nat.le_of_ble_eq_true rfl⟩) q_i_yX4_put q_x_yX4_put (s_recv hK (fun H h => (VL.wv.1 _ _ _ _ h).x) (by decide) o_X rfl) rfl (Nat.le_of_ble_eq_true rfl) dL_law_297 ⟨by show _ ≤ 600000; omega, by show _ ≤ 7302250; omega⟩ (fun r209 σ210 B211 N212 hr209 hσ210 hB211 hN212 => ?_)
                              refine s_if_le (tgt := 307) hC dL_law_300 (by decide) hr209 ?_ ?_
                              · refine s_iconst hC dL_law_307 ?_
                                refine s_goto (tgt := 329) hC dL_law_308 (by decide) ?_
                                exact hj154 0 σ210 B211 N212 τ12 (inR_c _ rfl) hσ210 hB211 hN212 hτ12
                              · refine s_iconst hC dL_law_303 ?_
                                refine s_goto (tgt := 329) hC dL_law_304 (by decide) ?_
                                exact hj154 1 σ210 B211 N212 τ12 (inR_c _ rfl) hσ210 hB211 hN212 hτ12
                      · refine s_if_eq (tgt := 255) hC dL_law_247 (by decide) hx144 ?_ ?_
                        · refine s_sub (L' := [(0, .ref bs), (1, .ref (x + 0)), (2, .ref (x + 205 + 0)), (3, .ref (x + 205 + 1)), (4, .ref (x + 205 + 2)), (5, .ref (x + 205 + 3)), (6, .ref (x + 205 + 4)), (7, .ref (x + 205 + 5)), (8, .ref (x + 205 + 6)), (9, vI x8), (11, vI v16), (13, vI v20), (14, vI r21), (15, vI r142), (16, vI x144)]) [0, 1, 2, 3, 4, 5, 6, 7, 8, 9, 10, 11, 12, 13, 14] rfl ?_
                          refine s_iload hC dL_law_255 12 rfl ?_
                          refine s_sub (L' := [(0, .ref bs), (1, .ref (x + 0)), (2, .ref (x + 205 + 0)), (3, .ref (x + 205 + 1)), (4, .ref (x + 205 + 2)), (5, .ref (x + 205 + 3)), (6, .ref (x + 205 + 4)), (7, .ref (x + 205 + 5)), (8, .ref (x + 205 + 6)), (9, vI x8), (11, vI v16), (13, vI v20), (15, vI r142), (16, vI x144)]) [0, 1, 2, 3, 4, 5, 6, 7, 8, 9, 10, 11, 13, 14] rfl ?_
                          exact hj148 r21 hr21
                        · refine s_sub (L' := [(0, .ref bs), (1, .ref (x + 0)), (2, .ref (x + 205 + 0)), (3, .ref (x + 205 + 1)), (4, .ref (x + 205 + 2)), (5, .ref (x + 205 + 3)), (6, .ref (x + 205 + 4)), (7, .ref (x + 205 + 5)), (8, .ref (x + 205 + 6)), (9, vI x8), (11, vI v16), (13, vI v20), (15, vI r142), (16, vI x144), (17, vI x146)]) [0, 1, 2, 3, 4, 5, 6, 7, 8, 9, 10, 11, 13, 14, 15] rfl ?_
                          refine s_iload hC dL_law_250 14 rfl ?_
                          refine s_goto (tgt := 257) hC dL_law_252 (by decide) ?_
                          refine s_sub (L' := [(0, .ref bs), (1, .ref (x + 0)), (2, .ref (x + 205 + 0)), (3, .ref (x + 205 + 1)), (4, .ref (x + 205 + 2)), (5, .ref (x + 205 + 3)), (6, .ref (x + 205 + 4)), (7, .ref (x + 205 + 5)), (8, .ref (x + 205 + 6)), (9, vI x8), (11, vI v16), (13, vI v20), (15, vI r142), (16, vI x144)]) [0, 1, 2, 3, 4, 5, 6, 7, 8, 9, 10, 11, 12, 13] rfl ?_
                          exact hj148 x146 hx146
                    · refine s_if_eq (tgt := 245) hC dL_law_232 (by decide) hx144 ?_ ?_
                      · exact hj147
                      · refine s_iload hC dL_law_235 15 rfl ?_
                        refine s_bipush hC dL_law_237 (by decide) ?_
                        refine s_icmp_ne (tgt := 245) hC dL_law_239 (by decide) hx146 (inR_c _ rfl) ?_ ?_
                        · exact hj147
                        · refine s_sub (L' := [(0, .ref bs), (1, .ref (x + 0)), (2, .ref (x + 205 + 0)), (3, .ref (x + 205 + 1)), (4, .ref (x + 205 + 2)), (5, .ref (x + 205 + 3)), (6, .ref (x + 205 + 4)), (7, .ref (x + 205 + 5)), (8, .ref (x + 205 + 6)), (9, vI x8)]) [0, 1, 2, 3, 4, 5, 6, 7, 8, 9] rfl ?_
                          refine s_goto (tgt := 959) hC dL_law_242 (by decide) ?_
                          refine s_widen (k' := 15100 - (N + 1) * 490 + 490) (n' := 603000 - (N + 1) * 19800 + 19800) (by omega) (by omega) ?_
                          exact hj22 σ9 B10 N11 τ12 hσ9 hB10 hN11 hτ12
                  · refine d_lp_I (F := g_L_law_L201 τ12 x144 j145) 201 (fun x213 => [(0, .ref bs), (1, .ref (x + 0)), (2, .ref (x + 205 + 0)), (3, .ref (x + 205 + 1)), (4, .ref (x + 205 + 2)), (5, .ref (x + 205 + 3)), (6, .ref (x + 205 + 4)), (7, .ref (x + 205 + 5)), (8, .ref (x + 205 + 6)), (9, vI x8), (11, vI v16), (13, vI v20), (14, vI r21), (15, vI r142), (16, vI x144), (17, vI x213)]) (fun _ => rfl) (fun n ih201 x213 hx213 => ?_) fu 0 (inR_c _ rfl)
                    rw [g_L_law_L201]
                    refine s_iload hC dL_law_201 14 rfl ?_
                    refine s_if_eq (tgt := 230) hC dL_law_203 (by decide) hx144 ?_ ?_
                    · exact hj145 x213 hx213
                    · refine s_iload hC dL_law_206 15 rfl ?_
                      refine s_bipush hC dL_law_208 (by decide) ?_
                      refine s_icmp_ge (tgt := 230) hC dL_law_210 (by decide) hx213 (inR_c _ rfl) ?_ ?_
                      · exact hj145 x213 hx213
                      · refine s_aload_n hC dL_law_213 rfl 3 rfl ?_
                        refine s_iconst hC dL_law_214 ?_
                        refine s_iload hC dL_law_215 15 rfl ?_
                        refine s_imul hC dL_law_217 ?_
                        refine s_iconst hC dL_law_218 ?_
                        refine s_iadd hC dL_law_219 ?_
                        refine s_iaload (b := x + 205) hC hK (fun H h => h.2) hτ12 (by decide) a_Tab_1 dL_law_220 (fun v214 hv214 => ?_)
                        refine s_if_lt (tgt := 230) hC dL_law_221 (by decide) hv214 ?_ ?_
                        · exact hj145 x213 hx213
                        · refine s_iincK hC dL_law_224 15 rfl (by decide) (fun v215 => [(17, vI v215), (0, .ref bs), (1, .ref (x + 0)), (2, .ref (x + 205 + 0)), (3, .ref (x + 205 + 1)), (4, .ref (x + 205 + 2)), (5, .ref (x + 205 + 3)), (6, .ref (x + 205 + 4)), (7, .ref (x + 205 + 5)), (8, .ref (x + 205 + 6)), (9, vI x8), (11, vI v16), (13, vI v20), (14, vI r21), (15, vI r142), (16, vI x144)]) (fun _ => rfl) (fun v215 hv215 => ?_)
                          refine s_goto (tgt := 201) hC dL_law_227 (by decide) ?_
                          refine s_sub (L' := [(0, .ref bs), (1, .ref (x + 0)), (2, .ref (x + 205 + 0)), (3, .ref (x + 205 + 1)), (4, .ref (x + 205 + 2)), (5, .ref (x + 205 + 3)), (6, .ref (x + 205 + 4)), (7, .ref (x + 205 + 5)), (8, .ref (x + 205 + 6)), (9, vI x8), (11, vI v16), (13, vI v20), (14, vI r21), (15, vI r142), (16, vI x144), (17, vI v215)]) [1, 2, 3, 4, 5, 6, 7, 8, 9, 10, 11, 12, 13, 14, 15, 0] rfl ?_
                          exact ih201 v215 hv215
                · refine s_if_ge (tgt := 195) hC dL_law_188 (by decide) hr21 ?_ ?_
                  · refine s_sub (L' := [(0, .ref bs), (1, .ref (x + 0)), (2, .ref (x + 205 + 0)), (3, .ref (x + 205 + 1)), (4, .ref (x + 205 + 2)), (5, .ref (x + 205 + 3)), (6, .ref (x + 205 + 4)), (7, .ref (x + 205 + 5)), (8, .ref (x + 205 + 6)), (9, vI x8), (11, vI v16), (13, vI v20), (14, vI r21), (15, vI r142)]) [1, 2, 3, 4, 5, 6, 7, 8, 9, 10, 11, 12, 13, 0] rfl ?_
                    refine s_iconst hC dL_law_195 ?_
                    exact hj143 0 (inR_c _ rfl)
                  · refine s_sub (L' := [(0, .ref bs), (1, .ref (x + 0)), (2, .ref (x + 205 + 0)), (3, .ref (x + 205 + 1)), (4, .ref (x + 205 + 2)), (5, .ref (x + 205 + 3)), (6, .ref (x + 205 + 4)), (7, .ref (x + 205 + 5)), (8, .ref (x + 205 + 6)), (9, vI x8), (11, vI v16), (13, vI v20), (14, vI r21), (15, vI r142)]) [1, 2, 3, 4, 5, 6, 7, 8, 9, 10, 11, 12, 13, 0] rfl ?_
                    refine s_iconst hC dL_law_191 ?_
                    refine s_goto (tgt := 196) hC dL_law_192 (by decide) ?_
                    exact hj143 1 (inR_c _ rfl)
              · refine s_if_ne (tgt := 179) hC dL_law_171 (by decide) hr139 ?_ ?_
                · refine s_sub (L' := [(0, .ref bs), (1, .ref (x + 0)), (2, .ref (x + 205 + 0)), (3, .ref (x + 205 + 1)), (4, .ref (x + 205 + 2)), (5, .ref (x + 205 + 3)), (6, .ref (x + 205 + 4)), (7, .ref (x + 205 + 5)), (8, .ref (x + 205 + 6)), (9, vI x8), (11, vI v16), (13, vI v20), (14, vI r21)]) [0, 1, 2, 3, 4, 5, 6, 7, 8, 9, 11, 12, 13] rfl ?_
                  refine s_bipush hC dL_law_179 (by decide) ?_
                  exact hj140 14 (inR_c _ rfl)
                · refine s_sub (L' := [(0, .ref bs), (1, .ref (x + 0)), (2, .ref (x + 205 + 0)), (3, .ref (x + 205 + 1)), (4, .ref (x + 205 + 2)), (5, .ref (x + 205 + 3)), (6, .ref (x + 205 + 4)), (7, .ref (x + 205 + 5)), (8, .ref (x + 205 + 6)), (9, vI x8), (11, vI v16), (13, vI v20), (14, vI r21)]) [0, 1, 2, 3, 4, 5, 6, 7, 8, 9, 11, 12, 13] rfl ?_
                  refine s_bipush hC dL_law_174 (by decide) ?_
                  refine s_goto (tgt := 181) hC dL_law_176 (by decide) ?_
                  exact hj140 25 (inR_c _ rfl)
      · refine s_icmp_ge (tgt := 123) hC dL_law_116 (by decide) hx8 (inR_c _ rfl) ?_ ?_
        · refine s_sub (L' := [(0, .ref bs), (1, .ref (x + 0)), (2, .ref (x + 205 + 0)), (3, .ref (x + 205 + 1)), (4, .ref (x + 205 + 2)), (5, .ref (x + 205 + 3)), (6, .ref (x + 205 + 4)), (7, .ref (x + 205 + 5)), (8, .ref (x + 205 + 6)), (9, vI x8), (10, vI v14), (11, vI v16)]) [2, 3, 4, 5, 6, 7, 8, 9, 10, 11, 1, 0] rfl ?_
          refine s_iload hC dL_law_123 10 rfl ?_
          refine s_bipush hC dL_law_125 (by decide) ?_
          refine s_callS_P (As := [vI v14, vI 10]) (rest := []) hC hKA 2 (m_L_low (I := (VL G x σ9 B10 N11 τ12)) hv14 (inR_c _ rfl)) rfl (cb_of hC 2 q_c_yL_low q_i_L q_m_L_88 rfl rfl dd_yL_low ⟨Nat.le_of_ble_eq_true rfl, Nat.le_of_ble_eq_true rfl⟩) q_s_yL_low rfl (Nat.le_of_ble_eq_true rfl) dL_law_127 ⟨by show _ ≤ 600000; omega, by show _ ≤ 7302250; omega⟩ (fun r216 hr216 => ?_)
          exact hj17 r216 hr216
        · refine s_sub (L' := [(0, .ref bs), (1, .ref (x + 0)), (2, .ref (x + 205 + 0)), (3, .ref (x + 205 + 1)), (4, .ref (x + 205 + 2)), (5, .ref (x + 205 + 3)), (6, .ref (x + 205 + 4)), (7, .ref (x + 205 + 5)), (8, .ref (x + 205 + 6)), (9, vI x8), (10, vI v14), (11, vI v16)]) [2, 3, 4, 5, 6, 7, 8, 9, 10, 11, 1, 0] rfl ?_
          refine s_iconst hC dL_law_119 ?_
          refine s_goto (tgt := 130) hC dL_law_120 (by decide) ?_
          exact hj17 0 (inR_c _ rfl)
  · refine d_lp_ID (V := VL G x) (F := g_L_law_L59 j3) 59 (fun x217 => [(0, .ref bs), (1, .ref (x + 0)), (2, .ref (x + 205 + 0)), (3, .ref (x + 205 + 1)), (4, .ref (x + 205 + 2)), (5, .ref (x + 205 + 3)), (6, .ref (x + 205 + 4)), (7, .ref (x + 205 + 5)), (8, .ref (x + 205 + 6)), (9, vI x217)]) (fun _ _ _ _ _ => rfl) (fun n ih59 x217 σ218 B219 N220 τ221 hx217 hσ218 hB219 hN220 hτ221 => ?_) fu 0 σ B nb τ2 (inR_c _ rfl) hσ hB hn hτ2
    rw [g_L_law_L59]
    refine s_iload hC dL_law_59 9 rfl ?_
    refine s_bipush hC dL_law_61 (by decide) ?_
    refine s_icmp_ge (tgt := 81) hC dL_law_63 (by decide) hx217 (inR_c _ rfl) ?_ ?_
    · refine s_sub (L' := [(0, .ref bs), (1, .ref (x + 0)), (2, .ref (x + 205 + 0)), (3, .ref (x + 205 + 1)), (4, .ref (x + 205 + 2)), (5, .ref (x + 205 + 3)), (6, .ref (x + 205 + 4)), (7, .ref (x + 205 + 5)), (8, .ref (x + 205 + 6))]) [0, 1, 2, 3, 4, 5, 6, 7, 8] rfl ?_
      exact hj3 σ218 B219 N220 τ221 hσ218 hB219 hN220 hτ221
    · refine s_aload_n hC dL_law_66 rfl 3 rfl ?_
      refine s_iconst hC dL_law_67 ?_
      refine s_iload hC dL_law_68 9 rfl ?_
      refine s_imul hC dL_law_70 ?_
      refine s_iconst hC dL_law_71 ?_
      refine s_iadd hC dL_law_72 ?_
      refine s_iconst hC dL_law_73 ?_
      refine s_iastore (b := x + 205) (J := fun τ => VL G x σ218 B219 N220 τ) hC hK VL.wd (fun q h => hAm q h) hτ221 (inR_c _ rfl) (by decide) a_Tab_1 dL_law_74 (fun τ222 hτ222 => ?_)
      refine s_iincK hC dL_law_75 9 rfl (by decide) (fun v223 => [(9, vI v223), (0, .ref bs), (1, .ref (x + 0)), (2, .ref (x + 205 + 0)), (3, .ref (x + 205 + 1)), (4, .ref (x + 205 + 2)), (5, .ref (x + 205 + 3)), (6, .ref (x + 205 + 4)), (7, .ref (x + 205 + 5)), (8, .ref (x + 205 + 6))]) (fun _ => rfl) (fun v223 hv223 => ?_)
      refine s_goto (tgt := 59) hC dL_law_78 (by decide) ?_
      refine s_sub (L' := [(0, .ref bs), (1, .ref (x + 0)), (2, .ref (x + 205 + 0)), (3, .ref (x + 205 + 1)), (4, .ref (x + 205 + 2)), (5, .ref (x + 205 + 3)), (6, .ref (x + 205 + 4)), (7, .ref (x + 205 + 5)), (8, .ref (x + 205 + 6)), (9, vI v223)]) [1, 2, 3, 4, 5, 6, 7, 8, 9, 0] rfl ?_
      exact ih59 v223 σ218 B219 N220 τ222 hv223 hσ218 hB219 hN220 hτ222
