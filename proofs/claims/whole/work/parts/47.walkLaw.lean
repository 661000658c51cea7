set_option maxHeartbeats 8000000 in
set_option maxRecDepth 100000 in
theorem m_law {p : Program} {l : Launch} {e : Env} {s : State} {m : MethodId} {below : List Frame} {meth : Method} {c : Code} {bs Ls : Nat} {xs : Nat → Int32} {G : Gt} {x : Nat} (hC : Cx p s m #[Value.ref bs] meth c code 4 RL) (hKA : KA G s) (hr : meth.sig.returnType = ret) (hX : va_X bs Ls xs s s.heap) (hbl : bs < s.heap.size) (hLs : Ls ≤ 2048) (hx : s.heap.size ≤ x) (N0 : Nat) (hN0 : N0 ≤ 600) :
    ∀ (y : Int) (σ : Blk) (B : Nat → Blk) (nb : Nat) (τ : Blk), inR y → Rg σ → RgB B → 2 ≤ nb → Rg τ → Sim p l e room_1 s m #[Value.ref bs] below meth c 4 (fun q => s.heap.size ≤ q) (QL below bs s) (59015 - N0 * 98) (2392674 - N0 * 3960) (VL G x σ B nb τ) 18 [(0, .ref bs), (1, .ref (x + 0)), (2, .ref (x + 205 + 0)), (3, vI y)] [] (g_law xs Ls N0 y σ B nb τ) := by
  have hK := hKA.1
  have hbA : ¬ (fun q : Nat => s.heap.size ≤ q) bs := Nat.not_le.mpr hbl
  have hAx : ∀ q, Rx x (x + 215) q → s.heap.size ≤ q := fun q h => by
    unfold Rx at h
    omega
  have hAm : ∀ q, Ab (x + 205) 10 q → s.heap.size ≤ q := fun q h => by
    have := h.1
    omega
  refine l_lp (V := fun σ B nb τ => VL G x σ B nb τ) 59015 2392674 98 3960 18 (fun y => [(0, .ref bs), (1, .ref (x + 0)), (2, .ref (x + 205 + 0)), (3, vI y)]) (fun _ _ _ _ _ => rfl) (fun N ih hN y σ B nb τ hy hσ hB hnb hτ => ?_) N0 hN0
  rw [g_law]
  refine s_iload_n hC dL_law_18 rfl 3 rfl ?_
  refine s_aload_n hC dL_law_19 rfl 0 rfl ?_
  refine l_slen hC hX hbl hbA dL_law_20 ?_
  refine s_iconst hC dL_law_21 ?_
  refine s_isub hC dL_law_22 ?_
  refine s_ck0 (fun v1 hv1 => ?_)
  refine s_icmp_gt (tgt := 691) hC dL_law_23 (by decide) hy hv1 ?_ ?_
  · refine s_iconst hC dL_law_691 ?_
    exact l_ret1 hC hr (fun _ h => h) (by omega) (by omega) dL_law_692
  · refine s_aload_n hC dL_law_26 rfl 0 rfl ?_
    refine s_iload_n hC dL_law_27 rfl 3 rfl ?_
    refine l_sld hC hX hbl hbA hLs dL_law_28 (fun v2 hv2 => ?_)
    refine s_bipush hC dL_law_29 (by decide) ?_
    refine s_iand hC dL_law_31 ?_
    refine l_jp (V := fun σ B nb τ => VL G x σ B nb τ) (59015 - N * 98) (2392674 - N * 3960) 685 ([(0, .ref bs), (1, .ref (x + 0)), (2, .ref (x + 205 + 0)), (3, vI y)]) (fun σ B nb τ hσ hB hnb hτ => ?_) (fun j hj => ?_)
    · refine s_iincK hC dL_law_685 3 rfl (by decide) (fun y => [(3, vI y), (0, .ref bs), (1, .ref (x + 0)), (2, .ref (x + 205 + 0))]) (fun _ => rfl) (fun v3 hv3 => ?_)
      refine s_goto (tgt := 18) hC dL_law_688 (by decide) ?_
      refine s_sub (L' := [(0, .ref bs), (1, .ref (x + 0)), (2, .ref (x + 205 + 0)), (3, vI v3)]) [1, 2, 3, 0] rfl ?_
      exact ih v3 σ B nb τ hv3 hσ hB hnb hτ
    · refine s_ite (fun hz => ?_) (fun hz0 => ?_)
      · refine s_tabIn (tgt := 132) hC 0 dL_law_32 (i32_in _) hz (by decide) (by decide) rfl (by decide) ?_
        refine s_aload_n hC dL_law_132 rfl 1 rfl ?_
        refine s_aload_n hC dL_law_133 rfl 0 rfl ?_
        refine s_iload_n hC dL_law_134 rfl 3 rfl ?_
        refine s_iconst hC dL_law_135 ?_
        refine s_iadd hC dL_law_136 ?_
        refine l_sld hC hX hbl hbA hLs dL_law_137 (fun v1 hv1 => ?_)
        refine s_aload_n hC dL_law_138 rfl 0 rfl ?_
        refine s_iload_n hC dL_law_139 rfl 3 rfl ?_
        refine s_iconst hC dL_law_140 ?_
        refine s_iadd hC dL_law_141 ?_
        refine l_sld hC hX hbl hbA hLs dL_law_142 (fun v2 hv2 => ?_)
        refine u_up4 (V := fun σ B nb => VL G x σ B nb τ) (As := [vI v1, vI v2]) (rest := []) (a := x + 0) (mc := 98) (ms := 3960) hC hKA 2 (m_X4_set (x := x) (y0 := x + 215) (V := fun σ B nb => VL G x σ B nb τ) (by omega) VL.wv hσ hB hnb hv1 hv2) (fun q h => hAx q h) rfl (cb_of hC 2 q_c_yX4_set q_i_X4 q_m_L_13 rfl rfl dd_yX4_set ⟨Nat.le_of_ble_eq_true rfl, Nat.le_of_ble_eq_true rfl⟩) q_i_yX4_set q_x_yX4_set (s_recv hK (fun H h => (VL.wv.1 _ _ _ _ h).x) (by decide) o_X rfl) rfl (Nat.le_of_ble_eq_true rfl) dL_law_143 ⟨by show _ ≤ 600000; omega, by show _ ≤ 7302250; omega⟩ (fun r3 σ4 B5 N6 hr3 hσ4 hB5 hN6 => ?_)
        refine s_aload_n hC dL_law_146 rfl 2 rfl ?_
        refine s_aload_n hC dL_law_147 rfl 0 rfl ?_
        refine s_iload_n hC dL_law_148 rfl 3 rfl ?_
        refine s_iconst hC dL_law_149 ?_
        refine s_iadd hC dL_law_150 ?_
        refine l_sld hC hX hbl hbA hLs dL_law_151 (fun v7 hv7 => ?_)
        refine s_aload_n hC dL_law_152 rfl 0 rfl ?_
        refine s_iload_n hC dL_law_153 rfl 3 rfl ?_
        refine s_iconst hC dL_law_154 ?_
        refine s_iadd hC dL_law_155 ?_
        refine l_sld hC hX hbl hbA hLs dL_law_156 (fun v8 hv8 => ?_)
        refine s_callV_W (J := fun τ => VL G x σ4 B5 N6 τ) (As := [vI v7, vI v8]) (rest := [vI r3]) (a := x + 205 + 0) hC hKA 2 (m_X5_set (b := x + 205) (J := fun τ => VL G x σ4 B5 N6 τ) VL.wd hτ hv7 hv8) (fun q h => hAm q h) rfl (cb_of hC 2 q_c_yX5_set q_i_X5 q_m_L_17 rfl rfl dd_yX5_set ⟨Nat.le_of_ble_eq_true rfl, Nat.le_of_ble_eq_true rfl⟩) q_i_yX5_set q_x_yX5_set (s_recv hK (fun H h => VL.wd.1 _ _ h) (by decide) o_Model rfl) rfl (Nat.le_of_ble_eq_true rfl) dL_law_157 ⟨by show _ ≤ 600000; omega, by show _ ≤ 7302250; omega⟩ (fun r9 τ10 hr9 hτ10 => ?_)
        refine s_icmp_eq (tgt := 685) hC dL_law_160 (by decide) hr3 hr9 ?_ l_ret0
        refine s_widen (k' := 59015 - N * 98) (n' := 2392674 - N * 3960) (by omega) (by omega) ?_
        exact hj σ4 B5 N6 τ10 hσ4 hB5 hN6 hτ10
      · refine s_ite (fun hz => ?_) (fun hz1 => ?_)
        · refine s_tabIn (tgt := 165) hC 1 dL_law_32 (i32_in _) hz (by decide) (by decide) rfl (by decide) ?_
          refine s_aload_n hC dL_law_165 rfl 1 rfl ?_
          refine u_up4 (V := fun σ B nb => VL G x σ B nb τ) (As := []) (rest := []) (a := x + 0) (mc := 98) (ms := 3960) hC hKA 0 (m_X4_write (x := x) (y0 := x + 215) (V := fun σ B nb => VL G x σ B nb τ) (by omega) VL.wv hσ hB hnb) (fun q h => hAx q h) rfl (cb_of hC 0 q_c_yX4_write q_i_X4 q_m_L_18 rfl rfl dd_yX4_write ⟨Nat.le_of_ble_eq_true rfl, Nat.le_of_ble_eq_true rfl⟩) q_i_yX4_write q_x_yX4_write (s_recv hK (fun H h => (VL.wv.1 _ _ _ _ h).x) (by decide) o_X rfl) rfl (Nat.le_of_ble_eq_true rfl) dL_law_166 ⟨by show _ ≤ 600000; omega, by show _ ≤ 7302250; omega⟩ (fun r11 σ12 B13 N14 hr11 hσ12 hB13 hN14 => ?_)
          refine s_aload_n hC dL_law_169 rfl 2 rfl ?_
          refine s_callV_W (J := fun τ => VL G x σ12 B13 N14 τ) (As := []) (rest := [vI r11]) (a := x + 205 + 0) hC hKA 0 (m_X5_write (b := x + 205) (J := fun τ => VL G x σ12 B13 N14 τ) VL.wd hτ) (fun q h => hAm q h) rfl (cb_of hC 0 q_c_yX5_write q_i_X5 q_m_L_22 rfl rfl dd_yX5_write ⟨Nat.le_of_ble_eq_true rfl, Nat.le_of_ble_eq_true rfl⟩) q_i_yX5_write q_x_yX5_write (s_recv hK (fun H h => VL.wd.1 _ _ h) (by decide) o_Model rfl) rfl (Nat.le_of_ble_eq_true rfl) dL_law_170 ⟨by show _ ≤ 600000; omega, by show _ ≤ 7302250; omega⟩ (fun r15 τ16 hr15 hτ16 => ?_)
          refine s_icmp_eq (tgt := 685) hC dL_law_173 (by decide) hr11 hr15 ?_ l_ret0
          refine s_widen (k' := 59015 - N * 98) (n' := 2392674 - N * 3960) (by omega) (by omega) ?_
          exact hj σ12 B13 N14 τ16 hσ12 hB13 hN14 hτ16
        · refine s_ite (fun hz => ?_) (fun hz2 => ?_)
          · refine s_tabIn (tgt := 178) hC 2 dL_law_32 (i32_in _) hz (by decide) (by decide) rfl (by decide) ?_
            refine s_aload_n hC dL_law_178 rfl 1 rfl ?_
            refine s_aload_n hC dL_law_179 rfl 0 rfl ?_
            refine s_iload_n hC dL_law_180 rfl 3 rfl ?_
            refine s_iconst hC dL_law_181 ?_
            refine s_iadd hC dL_law_182 ?_
            refine l_sld hC hX hbl hbA hLs dL_law_183 (fun v17 hv17 => ?_)
            refine s_aload_n hC dL_law_184 rfl 0 rfl ?_
            refine s_iload_n hC dL_law_185 rfl 3 rfl ?_
            refine s_iconst hC dL_law_186 ?_
            refine s_iadd hC dL_law_187 ?_
            refine l_sld hC hX hbl hbA hLs dL_law_188 (fun v18 hv18 => ?_)
            refine u_up4 (V := fun σ B nb => VL G x σ B nb τ) (As := [vI v17, vI v18]) (rest := []) (a := x + 0) (mc := 98) (ms := 3960) hC hKA 2 (m_X4_append (x := x) (y0 := x + 215) (V := fun σ B nb => VL G x σ B nb τ) (by omega) VL.wv hσ hB hnb hv17 hv18) (fun q h => hAx q h) rfl (cb_of hC 2 q_c_yX4_append q_i_X4 q_m_L_23 rfl rfl dd_yX4_append ⟨Nat.le_of_ble_eq_true rfl, Nat.le_of_ble_eq_true rfl⟩) q_i_yX4_append q_x_yX4_append (s_recv hK (fun H h => (VL.wv.1 _ _ _ _ h).x) (by decide) o_X rfl) rfl (Nat.le_of_ble_eq_true rfl) dL_law_189 ⟨by show _ ≤ 600000; omega, by show _ ≤ 7302250; omega⟩ (fun r19 σ20 B21 N22 hr19 hσ20 hB21 hN22 => ?_)
            refine s_aload_n hC dL_law_192 rfl 2 rfl ?_
            refine s_aload_n hC dL_law_193 rfl 0 rfl ?_
            refine s_iload_n hC dL_law_194 rfl 3 rfl ?_
            refine s_iconst hC dL_law_195 ?_
            refine s_iadd hC dL_law_196 ?_
            refine l_sld hC hX hbl hbA hLs dL_law_197 (fun v23 hv23 => ?_)
            refine s_aload_n hC dL_law_198 rfl 0 rfl ?_
            refine s_iload_n hC dL_law_199 rfl 3 rfl ?_
            refine s_iconst hC dL_law_200 ?_
            refine s_iadd hC dL_law_201 ?_
            refine l_sld hC hX hbl hbA hLs dL_law_202 (fun v24 hv24 => ?_)
            refine s_callV_W (J := fun τ => VL G x σ20 B21 N22 τ) (As := [vI v23, vI v24]) (rest := [vI r19]) (a := x + 205 + 0) hC hKA 2 (m_X5_append (b := x + 205) (J := fun τ => VL G x σ20 B21 N22 τ) VL.wd hτ hv23 hv24) (fun q h => hAm q h) rfl (cb_of hC 2 q_c_yX5_append q_i_X5 q_m_L_26 rfl rfl dd_yX5_append ⟨Nat.le_of_ble_eq_true rfl, Nat.le_of_ble_eq_true rfl⟩) q_i_yX5_append q_x_yX5_append (s_recv hK (fun H h => VL.wd.1 _ _ h) (by decide) o_Model rfl) rfl (Nat.le_of_ble_eq_true rfl) dL_law_203 ⟨by show _ ≤ 600000; omega, by show _ ≤ 7302250; omega⟩ (fun r25 τ26 hr25 hτ26 => ?_)
            refine s_icmp_eq (tgt := 685) hC dL_law_206 (by decide) hr19 hr25 ?_ l_ret0
            refine s_widen (k' := 59015 - N * 98) (n' := 2392674 - N * 3960) (by omega) (by omega) ?_
            exact hj σ20 B21 N22 τ26 hσ20 hB21 hN22 hτ26
          · refine s_ite (fun hz => ?_) (fun hz3 => ?_)
            · refine s_tabIn (tgt := 211) hC 3 dL_law_32 (i32_in _) hz (by decide) (by decide) rfl (by decide) ?_
              refine s_aload_n hC dL_law_211 rfl 1 rfl ?_
              refine s_aload_n hC dL_law_212 rfl 0 rfl ?_
              refine s_iload_n hC dL_law_213 rfl 3 rfl ?_
              refine s_iconst hC dL_law_214 ?_
              refine s_iadd hC dL_law_215 ?_
              refine l_sld hC hX hbl hbA hLs dL_law_216 (fun v27 hv27 => ?_)
              refine u_up4 (V := fun σ B nb => VL G x σ B nb τ) (As := [vI v27]) (rest := []) (a := x + 0) (mc := 98) (ms := 3960) hC hKA 1 (m_X4_delete (x := x) (y0 := x + 215) (V := fun σ B nb => VL G x σ B nb τ) (by omega) VL.wv hσ hB hnb hv27) (fun q h => hAx q h) rfl (cb_of hC 1 q_c_yX4_delete q_i_X4 q_m_L_27 rfl rfl dd_yX4_delete ⟨Nat.le_of_ble_eq_true rfl, Nat.le_of_ble_eq_true rfl⟩) q_i_yX4_delete q_x_yX4_delete (s_recv hK (fun H h => (VL.wv.1 _ _ _ _ h).x) (by decide) o_X rfl) rfl (Nat.le_of_ble_eq_true rfl) dL_law_217 ⟨by show _ ≤ 600000; omega, by show _ ≤ 7302250; omega⟩ (fun r28 σ29 B30 N31 hr28 hσ29 hB30 hN31 => ?_)
              refine s_aload_n hC dL_law_220 rfl 2 rfl ?_
              refine s_aload_n hC dL_law_221 rfl 0 rfl ?_
              refine s_iload_n hC dL_law_222 rfl 3 rfl ?_
              refine s_iconst hC dL_law_223 ?_
              refine s_iadd hC dL_law_224 ?_
              refine l_sld hC hX hbl hbA hLs dL_law_225 (fun v32 hv32 => ?_)
              refine s_callV_W (J := fun τ => VL G x σ29 B30 N31 τ) (As := [vI v32]) (rest := [vI r28]) (a := x + 205 + 0) hC hKA 1 (m_X5_delete (b := x + 205) (J := fun τ => VL G x σ29 B30 N31 τ) VL.wd hτ hv32) (fun q h => hAm q h) rfl (cb_of hC 1 q_c_yX5_delete q_i_X5 q_m_L_31 rfl rfl dd_yX5_delete ⟨Nat.le_of_ble_eq_true rfl, Nat.le_of_ble_eq_true rfl⟩) q_i_yX5_delete q_x_yX5_delete (s_recv hK (fun H h => VL.wd.1 _ _ h) (by decide) o_Model rfl) rfl (Nat.le_of_ble_eq_true rfl) dL_law_226 ⟨by show _ ≤ 600000; omega, by show _ ≤ 7302250; omega⟩ (fun r33 τ34 hr33 hτ34 => ?_)
              refine s_icmp_eq (tgt := 685) hC dL_law_229 (by decide) hr28 hr33 ?_ l_ret0
              refine s_widen (k' := 59015 - N * 98) (n' := 2392674 - N * 3960) (by omega) (by omega) ?_
              exact hj σ29 B30 N31 τ34 hσ29 hB30 hN31 hτ34
            · refine s_ite (fun hz => ?_) (fun hz4 => ?_)
              · refine s_tabIn (tgt := 234) hC 4 dL_law_32 (i32_in _) hz (by decide) (by decide) rfl (by decide) ?_
                refine s_aload_n hC dL_law_234 rfl 1 rfl ?_
                refine u_up4 (V := fun σ B nb => VL G x σ B nb τ) (As := []) (rest := []) (a := x + 0) (mc := 98) (ms := 3960) hC hKA 0 (m_X4_pack (x := x) (y0 := x + 215) (V := fun σ B nb => VL G x σ B nb τ) (by omega) VL.wv hσ hB hnb) (fun q h => hAx q h) rfl (cb_of hC 0 q_c_yX4_pack q_i_X4 q_m_L_32 rfl rfl dd_yX4_pack ⟨Nat.le_of_ble_eq_true rfl, Nat.le_of_ble_eq_true rfl⟩) q_i_yX4_pack q_x_yX4_pack (s_recv hK (fun H h => (VL.wv.1 _ _ _ _ h).x) (by decide) o_X rfl) rfl (Nat.le_of_ble_eq_true rfl) dL_law_235 ⟨by show _ ≤ 600000; omega, by show _ ≤ 7302250; omega⟩ (fun r35 σ36 B37 N38 hr35 hσ36 hB37 hN38 => ?_)
                refine s_aload_n hC dL_law_238 rfl 2 rfl ?_
                refine s_callV_W (J := fun τ => VL G x σ36 B37 N38 τ) (As := []) (rest := [vI r35]) (a := x + 205 + 0) hC hKA 0 (m_X5_pack (b := x + 205) (J := fun τ => VL G x σ36 B37 N38 τ) VL.wd hτ) (fun q h => hAm q h) rfl (cb_of hC 0 q_c_yX5_pack q_i_X5 q_m_L_35 rfl rfl dd_yX5_pack ⟨Nat.le_of_ble_eq_true rfl, Nat.le_of_ble_eq_true rfl⟩) q_i_yX5_pack q_x_yX5_pack (s_recv hK (fun H h => VL.wd.1 _ _ h) (by decide) o_Model rfl) rfl (Nat.le_of_ble_eq_true rfl) dL_law_239 ⟨by show _ ≤ 600000; omega, by show _ ≤ 7302250; omega⟩ (fun r39 τ40 hr39 hτ40 => ?_)
                refine s_icmp_eq (tgt := 685) hC dL_law_242 (by decide) hr35 hr39 ?_ l_ret0
                refine s_widen (k' := 59015 - N * 98) (n' := 2392674 - N * 3960) (by omega) (by omega) ?_
                exact hj σ36 B37 N38 τ40 hσ36 hB37 hN38 hτ40
              · refine s_ite (fun hz => ?_) (fun hz5 => ?_)
                · refine s_tabIn (tgt := 247) hC 5 dL_law_32 (i32_in _) hz (by decide) (by decide) rfl (by decide) ?_
                  refine s_aload_n hC dL_law_247 rfl 1 rfl ?_
                  refine s_aload_n hC dL_law_248 rfl 0 rfl ?_
                  refine s_iload_n hC dL_law_249 rfl 3 rfl ?_
                  refine s_iconst hC dL_law_250 ?_
                  refine s_iadd hC dL_law_251 ?_
                  refine l_sld hC hX hbl hbA hLs dL_law_252 (fun v41 hv41 => ?_)
                  refine s_aload_n hC dL_law_253 rfl 0 rfl ?_
                  refine s_iload_n hC dL_law_254 rfl 3 rfl ?_
                  refine s_iconst hC dL_law_255 ?_
                  refine s_iadd hC dL_law_256 ?_
                  refine l_sld hC hX hbl hbA hLs dL_law_257 (fun v42 hv42 => ?_)
                  refine s_callV_P (As := [vI v41, vI v42]) (rest := []) (a := x + 0) hC hKA 2 (m_X4_row (x := x) (y0 := x + 215) (by omega) (fun H h => VL.wv.1 _ _ _ _ h) hσ hB hv41 hv42) rfl (cb_of hC 2 q_c_yX4_row q_i_X4 q_m_L_36 rfl rfl dd_yX4_row ⟨Nat.le_of_ble_eq_true rfl, Nat.le_of_ble_eq_true rfl⟩) q_i_yX4_row q_x_yX4_row (s_recv hK (fun H h => (VL.wv.1 _ _ _ _ h).x) (by decide) o_X rfl) rfl (Nat.le_of_ble_eq_true rfl) dL_law_258 ⟨by show _ ≤ 600000; omega, by show _ ≤ 7302250; omega⟩ (fun r43 hr43 => ?_)
                  refine s_aload_n hC dL_law_261 rfl 2 rfl ?_
                  refine s_aload_n hC dL_law_262 rfl 0 rfl ?_
                  refine s_iload_n hC dL_law_263 rfl 3 rfl ?_
                  refine s_iconst hC dL_law_264 ?_
                  refine s_iadd hC dL_law_265 ?_
                  refine l_sld hC hX hbl hbA hLs dL_law_266 (fun v44 hv44 => ?_)
                  refine s_aload_n hC dL_law_267 rfl 0 rfl ?_
                  refine s_iload_n hC dL_law_268 rfl 3 rfl ?_
                  refine s_iconst hC dL_law_269 ?_
                  refine s_iadd hC dL_law_270 ?_
                  refine l_sld hC hX hbl hbA hLs dL_law_271 (fun v45 hv45 => ?_)
                  refine s_callV_W (J := fun τ => VL G x σ B nb τ) (As := [vI v44, vI v45]) (rest := [vI r43]) (a := x + 205 + 0) hC hKA 2 (m_X5_row (b := x + 205) (J := fun τ => VL G x σ B nb τ) VL.wd hτ hv44 hv45) (fun q h => hAm q h) rfl (cb_of hC 2 q_c_yX5_row q_i_X5 q_m_L_39 rfl rfl dd_yX5_row ⟨Nat.le_of_ble_eq_true rfl, Nat.le_of_ble_eq_true rfl⟩) q_i_yX5_row q_x_yX5_row (s_recv hK (fun H h => VL.wd.1 _ _ h) (by decide) o_Model rfl) rfl (Nat.le_of_ble_eq_true rfl) dL_law_272 ⟨by show _ ≤ 600000; omega, by show _ ≤ 7302250; omega⟩ (fun r46 τ47 hr46 hτ47 => ?_)
                  refine s_icmp_eq (tgt := 685) hC dL_law_275 (by decide) hr43 hr46 ?_ l_ret0
                  refine s_widen (k' := 59015 - N * 98) (n' := 2392674 - N * 3960) (by omega) (by omega) ?_
                  exact hj σ B nb τ47 hσ hB hnb hτ47
                · refine s_ite (fun hz => ?_) (fun hz6 => ?_)
                  · refine s_tabIn (tgt := 280) hC 6 dL_law_32 (i32_in _) hz (by decide) (by decide) rfl (by decide) ?_
                    refine s_aload_n hC dL_law_280 rfl 1 rfl ?_
                    refine s_aload_n hC dL_law_281 rfl 0 rfl ?_
                    refine s_iload_n hC dL_law_282 rfl 3 rfl ?_
                    refine s_iconst hC dL_law_283 ?_
                    refine s_iadd hC dL_law_284 ?_
                    refine l_sld hC hX hbl hbA hLs dL_law_285 (fun v48 hv48 => ?_)
                    refine s_aload_n hC dL_law_286 rfl 0 rfl ?_
                    refine s_iload_n hC dL_law_287 rfl 3 rfl ?_
                    refine s_iconst hC dL_law_288 ?_
                    refine s_iadd hC dL_law_289 ?_
                    refine l_sld hC hX hbl hbA hLs dL_law_290 (fun v49 hv49 => ?_)
                    refine s_callV_P (As := [vI v48, vI v49]) (rest := []) (a := x + 0) hC hKA 2 (m_X4_letter (x := x) (y0 := x + 215) (by omega) (fun H h => VL.wv.1 _ _ _ _ h) hσ hB hv48 hv49) rfl (cb_of hC 2 q_c_yX4_letter q_i_X4 q_m_L_40 rfl rfl dd_yX4_letter ⟨Nat.le_of_ble_eq_true rfl, Nat.le_of_ble_eq_true rfl⟩) q_i_yX4_letter q_x_yX4_letter (s_recv hK (fun H h => (VL.wv.1 _ _ _ _ h).x) (by decide) o_X rfl) rfl (Nat.le_of_ble_eq_true rfl) dL_law_291 ⟨by show _ ≤ 600000; omega, by show _ ≤ 7302250; omega⟩ (fun r50 hr50 => ?_)
                    refine s_aload_n hC dL_law_294 rfl 2 rfl ?_
                    refine s_aload_n hC dL_law_295 rfl 0 rfl ?_
                    refine s_iload_n hC dL_law_296 rfl 3 rfl ?_
                    refine s_iconst hC dL_law_297 ?_
                    refine s_iadd hC dL_law_298 ?_
                    refine l_sld hC hX hbl hbA hLs dL_law_299 (fun v51 hv51 => ?_)
                    refine s_aload_n hC dL_law_300 rfl 0 rfl ?_
                    refine s_iload_n hC dL_law_301 rfl 3 rfl ?_
                    refine s_iconst hC dL_law_302 ?_
                    refine s_iadd hC dL_law_303 ?_
                    refine l_sld hC hX hbl hbA hLs dL_law_304 (fun v52 hv52 => ?_)
                    refine s_callV_P (As := [vI v51, vI v52]) (rest := [vI r50]) (a := x + 205 + 0) hC hKA 2 (m_X5_letter (b := x + 205) (I := VL G x σ B nb τ) (fun H h => VL.wd.1 _ _ h) hτ hv51 hv52) rfl (cb_of hC 2 q_c_yX5_letter q_i_X5 q_m_L_43 rfl rfl dd_yX5_letter ⟨Nat.le_of_ble_eq_true rfl, Nat.le_of_ble_eq_true rfl⟩) q_i_yX5_letter q_x_yX5_letter (s_recv hK (fun H h => VL.wd.1 _ _ h) (by decide) o_Model rfl) rfl (Nat.le_of_ble_eq_true rfl) dL_law_305 ⟨by show _ ≤ 600000; omega, by show _ ≤ 7302250; omega⟩ (fun r53 hr53 => ?_)
                    refine s_icmp_eq (tgt := 685) hC dL_law_308 (by decide) hr50 hr53 ?_ l_ret0
                    refine s_widen (k' := 59015 - N * 98) (n' := 2392674 - N * 3960) (by omega) (by omega) ?_
                    exact hj σ B nb τ hσ hB hnb hτ
                  · refine s_ite (fun hz => ?_) (fun hz7 => ?_)
                    · refine s_tabIn (tgt := 313) hC 7 dL_law_32 (i32_in _) hz (by decide) (by decide) rfl (by decide) ?_
                      refine s_aload_n hC dL_law_313 rfl 1 rfl ?_
                      refine s_aload_n hC dL_law_314 rfl 0 rfl ?_
                      refine s_iload_n hC dL_law_315 rfl 3 rfl ?_
                      refine s_iconst hC dL_law_316 ?_
                      refine s_iadd hC dL_law_317 ?_
                      refine l_sld hC hX hbl hbA hLs dL_law_318 (fun v54 hv54 => ?_)
                      refine s_aload_n hC dL_law_319 rfl 0 rfl ?_
                      refine s_iload_n hC dL_law_320 rfl 3 rfl ?_
                      refine s_iconst hC dL_law_321 ?_
                      refine s_iadd hC dL_law_322 ?_
                      refine l_sld hC hX hbl hbA hLs dL_law_323 (fun v55 hv55 => ?_)
                      refine s_aload_n hC dL_law_324 rfl 0 rfl ?_
                      refine s_iload_n hC dL_law_325 rfl 3 rfl ?_
                      refine s_iconst hC dL_law_326 ?_
                      refine s_iadd hC dL_law_327 ?_
                      refine l_sld hC hX hbl hbA hLs dL_law_328 (fun v56 hv56 => ?_)
                      refine s_callV_P (As := [vI v54, vI v55, vI v56]) (rest := []) (a := x + 0) hC hKA 3 (m_X4_piece (x := x) (y0 := x + 215) (by omega) (fun H h => VL.wv.1 _ _ _ _ h) hσ hB hv54 hv55 hv56) rfl (cb_of hC 3 q_c_yX4_piece q_i_X4 q_m_L_44 rfl rfl dd_yX4_piece ⟨Nat.le_of_ble_eq_true rfl, Nat.le_of_ble_eq_true rfl⟩) q_i_yX4_piece q_x_yX4_piece (s_recv hK (fun H h => (VL.wv.1 _ _ _ _ h).x) (by decide) o_X rfl) rfl (Nat.le_of_ble_eq_true rfl) dL_law_329 ⟨by show _ ≤ 600000; omega, by show _ ≤ 7302250; omega⟩ (fun r57 hr57 => ?_)
                      refine s_aload_n hC dL_law_332 rfl 2 rfl ?_
                      refine s_aload_n hC dL_law_333 rfl 0 rfl ?_
                      refine s_iload_n hC dL_law_334 rfl 3 rfl ?_
                      refine s_iconst hC dL_law_335 ?_
                      refine s_iadd hC dL_law_336 ?_
                      refine l_sld hC hX hbl hbA hLs dL_law_337 (fun v58 hv58 => ?_)
                      refine s_aload_n hC dL_law_338 rfl 0 rfl ?_
                      refine s_iload_n hC dL_law_339 rfl 3 rfl ?_
                      refine s_iconst hC dL_law_340 ?_
                      refine s_iadd hC dL_law_341 ?_
                      refine l_sld hC hX hbl hbA hLs dL_law_342 (fun v59 hv59 => ?_)
                      refine s_aload_n hC dL_law_343 rfl 0 rfl ?_
                      refine s_iload_n hC dL_law_344 rfl 3 rfl ?_
                      refine s_iconst hC dL_law_345 ?_
                      refine s_iadd hC dL_law_346 ?_
                      refine l_sld hC hX hbl hbA hLs dL_law_347 (fun v60 hv60 => ?_)
                      refine s_callV_W (J := fun τ => VL G x σ B nb τ) (As := [vI v58, vI v59, vI v60]) (rest := [vI r57]) (a := x + 205 + 0) hC hKA 3 (m_X5_piece (b := x + 205) (J := fun τ => VL G x σ B nb τ) VL.wd hτ hv58 hv59 hv60) (fun q h => hAm q h) rfl (cb_of hC 3 q_c_yX5_piece q_i_X5 q_m_L_48 rfl rfl dd_yX5_piece ⟨Nat.le_of_ble_eq_true rfl, Nat.le_of_ble_eq_true rfl⟩) q_i_yX5_piece q_x_yX5_piece (s_recv hK (fun H h => VL.wd.1 _ _ h) (by decide) o_Model rfl) rfl (Nat.le_of_ble_eq_true rfl) dL_law_348 ⟨by show _ ≤ 600000; omega, by show _ ≤ 7302250; omega⟩ (fun r61 τ62 hr61 hτ62 => ?_)
                      refine s_icmp_eq (tgt := 685) hC dL_law_351 (by decide) hr57 hr61 ?_ l_ret0
                      refine s_widen (k' := 59015 - N * 98) (n' := 2392674 - N * 3960) (by omega) (by omega) ?_
                      exact hj σ B nb τ62 hσ hB hnb hτ62
                    · refine s_ite (fun hz => ?_) (fun hz8 => ?_)
                      · refine s_tabIn (tgt := 356) hC 8 dL_law_32 (i32_in _) hz (by decide) (by decide) rfl (by decide) ?_
                        refine s_aload_n hC dL_law_356 rfl 1 rfl ?_
                        refine s_aload_n hC dL_law_357 rfl 0 rfl ?_
                        refine s_iload_n hC dL_law_358 rfl 3 rfl ?_
                        refine s_iconst hC dL_law_359 ?_
                        refine s_iadd hC dL_law_360 ?_
                        refine l_sld hC hX hbl hbA hLs dL_law_361 (fun v63 hv63 => ?_)
                        refine s_aload_n hC dL_law_362 rfl 0 rfl ?_
                        refine s_iload_n hC dL_law_363 rfl 3 rfl ?_
                        refine s_iconst hC dL_law_364 ?_
                        refine s_iadd hC dL_law_365 ?_
                        refine l_sld hC hX hbl hbA hLs dL_law_366 (fun v64 hv64 => ?_)
                        refine s_callV_P (As := [vI v63, vI v64]) (rest := []) (a := x + 0) hC hKA 2 (m_X4_page (x := x) (y0 := x + 215) (by omega) (fun H h => VL.wv.1 _ _ _ _ h) hσ hB hv63 hv64) rfl (cb_of hC 2 q_c_yX4_page q_i_X4 q_m_L_49 rfl rfl dd_yX4_page ⟨Nat.le_of_ble_eq_true rfl, Nat.le_of_ble_eq_true rfl⟩) q_i_yX4_page q_x_yX4_page (s_recv hK (fun H h => (VL.wv.1 _ _ _ _ h).x) (by decide) o_X rfl) rfl (Nat.le_of_ble_eq_true rfl) dL_law_367 ⟨by show _ ≤ 600000; omega, by show _ ≤ 7302250; omega⟩ (fun r65 hr65 => ?_)
                        refine s_aload_n hC dL_law_370 rfl 2 rfl ?_
                        refine s_aload_n hC dL_law_371 rfl 0 rfl ?_
                        refine s_iload_n hC dL_law_372 rfl 3 rfl ?_
                        refine s_iconst hC dL_law_373 ?_
                        refine s_iadd hC dL_law_374 ?_
                        refine l_sld hC hX hbl hbA hLs dL_law_375 (fun v66 hv66 => ?_)
                        refine s_aload_n hC dL_law_376 rfl 0 rfl ?_
                        refine s_iload_n hC dL_law_377 rfl 3 rfl ?_
                        refine s_iconst hC dL_law_378 ?_
                        refine s_iadd hC dL_law_379 ?_
                        refine l_sld hC hX hbl hbA hLs dL_law_380 (fun v67 hv67 => ?_)
                        refine s_callV_P (As := [vI v66, vI v67]) (rest := [vI r65]) (a := x + 205 + 0) hC hKA 2 (m_X5_page (b := x + 205) (I := VL G x σ B nb τ) (fun H h => VL.wd.1 _ _ h) hτ hv66 hv67) rfl (cb_of hC 2 q_c_yX5_page q_i_X5 q_m_L_52 rfl rfl dd_yX5_page ⟨Nat.le_of_ble_eq_true rfl, Nat.le_of_ble_eq_true rfl⟩) q_i_yX5_page q_x_yX5_page (s_recv hK (fun H h => VL.wd.1 _ _ h) (by decide) o_Model rfl) rfl (Nat.le_of_ble_eq_true rfl) dL_law_381 ⟨by show _ ≤ 600000; omega, by show _ ≤ 7302250; omega⟩ (fun r68 hr68 => ?_)
                        refine s_icmp_eq (tgt := 685) hC dL_law_384 (by decide) hr65 hr68 ?_ l_ret0
                        refine s_widen (k' := 59015 - N * 98) (n' := 2392674 - N * 3960) (by omega) (by omega) ?_
                        exact hj σ B nb τ hσ hB hnb hτ
                      · refine s_ite (fun hz => ?_) (fun hz9 => ?_)
                        · refine s_tabIn (tgt := 389) hC 9 dL_law_32 (i32_in _) hz (by decide) (by decide) rfl (by decide) ?_
                          refine s_aload_n hC dL_law_389 rfl 1 rfl ?_
                          refine s_aload_n hC dL_law_390 rfl 0 rfl ?_
                          refine s_iload_n hC dL_law_391 rfl 3 rfl ?_
                          refine s_iconst hC dL_law_392 ?_
                          refine s_iadd hC dL_law_393 ?_
                          refine l_sld hC hX hbl hbA hLs dL_law_394 (fun v69 hv69 => ?_)
                          refine s_aload_n hC dL_law_395 rfl 0 rfl ?_
                          refine s_iload_n hC dL_law_396 rfl 3 rfl ?_
                          refine s_iconst hC dL_law_397 ?_
                          refine s_iadd hC dL_law_398 ?_
                          refine l_sld hC hX hbl hbA hLs dL_law_399 (fun v70 hv70 => ?_)
                          refine s_aload_n hC dL_law_400 rfl 0 rfl ?_
                          refine s_iload_n hC dL_law_401 rfl 3 rfl ?_
                          refine s_iconst hC dL_law_402 ?_
                          refine s_iadd hC dL_law_403 ?_
                          refine l_sld hC hX hbl hbA hLs dL_law_404 (fun v71 hv71 => ?_)
                          refine s_callV_P (As := [vI v69, vI v70, vI v71]) (rest := []) (a := x + 0) hC hKA 3 (m_X4_slot (x := x) (y0 := x + 215) (by omega) (fun H h => VL.wv.1 _ _ _ _ h) hσ hB hv69 hv70 hv71) rfl (cb_of hC 3 q_c_yX4_slot q_i_X4 q_m_L_53 rfl rfl dd_yX4_slot ⟨Nat.le_of_ble_eq_true rfl, Nat.le_of_ble_eq_true rfl⟩) q_i_yX4_slot q_x_yX4_slot (s_recv hK (fun H h => (VL.wv.1 _ _ _ _ h).x) (by decide) o_X rfl) rfl (Nat.le_of_ble_eq_true rfl) dL_law_405 ⟨by show _ ≤ 600000; omega, by show _ ≤ 7302250; omega⟩ (fun r72 hr72 => ?_)
                          refine s_aload_n hC dL_law_408 rfl 2 rfl ?_
                          refine s_aload_n hC dL_law_409 rfl 0 rfl ?_
                          refine s_iload_n hC dL_law_410 rfl 3 rfl ?_
                          refine s_iconst hC dL_law_411 ?_
                          refine s_iadd hC dL_law_412 ?_
                          refine l_sld hC hX hbl hbA hLs dL_law_413 (fun v73 hv73 => ?_)
                          refine s_aload_n hC dL_law_414 rfl 0 rfl ?_
                          refine s_iload_n hC dL_law_415 rfl 3 rfl ?_
                          refine s_iconst hC dL_law_416 ?_
                          refine s_iadd hC dL_law_417 ?_
                          refine l_sld hC hX hbl hbA hLs dL_law_418 (fun v74 hv74 => ?_)
                          refine s_aload_n hC dL_law_419 rfl 0 rfl ?_
                          refine s_iload_n hC dL_law_420 rfl 3 rfl ?_
                          refine s_iconst hC dL_law_421 ?_
                          refine s_iadd hC dL_law_422 ?_
                          refine l_sld hC hX hbl hbA hLs dL_law_423 (fun v75 hv75 => ?_)
                          refine s_callV_P (As := [vI v73, vI v74, vI v75]) (rest := [vI r72]) (a := x + 205 + 0) hC hKA 3 (m_X5_slot (b := x + 205) (I := VL G x σ B nb τ) (fun H h => VL.wd.1 _ _ h) hτ hv73 hv74 hv75) rfl (cb_of hC 3 q_c_yX5_slot q_i_X5 q_m_L_56 rfl rfl dd_yX5_slot ⟨Nat.le_of_ble_eq_true rfl, Nat.le_of_ble_eq_true rfl⟩) q_i_yX5_slot q_x_yX5_slot (s_recv hK (fun H h => VL.wd.1 _ _ h) (by decide) o_Model rfl) rfl (Nat.le_of_ble_eq_true rfl) dL_law_424 ⟨by show _ ≤ 600000; omega, by show _ ≤ 7302250; omega⟩ (fun r76 hr76 => ?_)
                          refine s_icmp_eq (tgt := 685) hC dL_law_427 (by decide) hr72 hr76 ?_ l_ret0
                          refine s_widen (k' := 59015 - N * 98) (n' := 2392674 - N * 3960) (by omega) (by omega) ?_
                          exact hj σ B nb τ hσ hB hnb hτ
                        · refine s_ite (fun hz => ?_) (fun hz10 => ?_)
                          · refine s_tabIn (tgt := 432) hC 10 dL_law_32 (i32_in _) hz (by decide) (by decide) rfl (by decide) ?_
                            refine s_aload_n hC dL_law_432 rfl 1 rfl ?_
                            refine s_aload_n hC dL_law_433 rfl 0 rfl ?_
                            refine s_iload_n hC dL_law_434 rfl 3 rfl ?_
                            refine s_iconst hC dL_law_435 ?_
                            refine s_iadd hC dL_law_436 ?_
                            refine l_sld hC hX hbl hbA hLs dL_law_437 (fun v77 hv77 => ?_)
                            refine s_callV_P (As := [vI v77]) (rest := []) (a := x + 0) hC hKA 1 (m_X4_count (x := x) (y0 := x + 215) (by omega) (fun H h => VL.wv.1 _ _ _ _ h) hσ hB hv77) rfl (cb_of hC 1 q_c_yX4_count q_i_X4 q_m_L_57 rfl rfl dd_yX4_count ⟨Nat.le_of_ble_eq_true rfl, Nat.le_of_ble_eq_true rfl⟩) q_i_yX4_count q_x_yX4_count (s_recv hK (fun H h => (VL.wv.1 _ _ _ _ h).x) (by decide) o_X rfl) rfl (Nat.le_of_ble_eq_true rfl) dL_law_438 ⟨by show _ ≤ 600000; omega, by show _ ≤ 7302250; omega⟩ (fun r78 hr78 => ?_)
                            refine s_aload_n hC dL_law_441 rfl 2 rfl ?_
                            refine s_aload_n hC dL_law_442 rfl 0 rfl ?_
                            refine s_iload_n hC dL_law_443 rfl 3 rfl ?_
                            refine s_iconst hC dL_law_444 ?_
                            refine s_iadd hC dL_law_445 ?_
                            refine l_sld hC hX hbl hbA hLs dL_law_446 (fun v79 hv79 => ?_)
                            refine s_callV_W (J := fun τ => VL G x σ B nb τ) (As := [vI v79]) (rest := [vI r78]) (a := x + 205 + 0) hC hKA 1 (m_X5_count (b := x + 205) (J := fun τ => VL G x σ B nb τ) VL.wd hτ hv79) (fun q h => hAm q h) rfl (cb_of hC 1 q_c_yX5_count q_i_X5 q_m_L_60 rfl rfl dd_yX5_count ⟨Nat.le_of_ble_eq_true rfl, Nat.le_of_ble_eq_true rfl⟩) q_i_yX5_count q_x_yX5_count (s_recv hK (fun H h => VL.wd.1 _ _ h) (by decide) o_Model rfl) rfl (Nat.le_of_ble_eq_true rfl) dL_law_447 ⟨by show _ ≤ 600000; omega, by show _ ≤ 7302250; omega⟩ (fun r80 τ81 hr80 hτ81 => ?_)
                            refine s_icmp_eq (tgt := 685) hC dL_law_450 (by decide) hr78 hr80 ?_ l_ret0
                            refine s_widen (k' := 59015 - N * 98) (n' := 2392674 - N * 3960) (by omega) (by omega) ?_
                            exact hj σ B nb τ81 hσ hB hnb hτ81
                          · refine s_ite (fun hz => ?_) (fun hz11 => ?_)
                            · refine s_tabIn (tgt := 455) hC 11 dL_law_32 (i32_in _) hz (by decide) (by decide) rfl (by decide) ?_
                              refine s_aload_n hC dL_law_455 rfl 1 rfl ?_
                              refine s_aload_n hC dL_law_456 rfl 0 rfl ?_
                              refine s_iload_n hC dL_law_457 rfl 3 rfl ?_
                              refine s_iconst hC dL_law_458 ?_
                              refine s_iadd hC dL_law_459 ?_
                              refine l_sld hC hX hbl hbA hLs dL_law_460 (fun v82 hv82 => ?_)
                              refine s_callV_P (As := [vI v82]) (rest := []) (a := x + 0) hC hKA 1 (m_X4_key (x := x) (y0 := x + 215) (by omega) (fun H h => VL.wv.1 _ _ _ _ h) hσ hB hv82) rfl (cb_of hC 1 q_c_yX4_key q_i_X4 q_m_L_61 rfl rfl dd_yX4_key ⟨Nat.le_of_ble_eq_true rfl, Nat.le_of_ble_eq_true rfl⟩) q_i_yX4_key q_x_yX4_key (s_recv hK (fun H h => (VL.wv.1 _ _ _ _ h).x) (by decide) o_X rfl) rfl (Nat.le_of_ble_eq_true rfl) dL_law_461 ⟨by show _ ≤ 600000; omega, by show _ ≤ 7302250; omega⟩ (fun r83 hr83 => ?_)
                              refine s_aload_n hC dL_law_464 rfl 2 rfl ?_
                              refine s_aload_n hC dL_law_465 rfl 0 rfl ?_
                              refine s_iload_n hC dL_law_466 rfl 3 rfl ?_
                              refine s_iconst hC dL_law_467 ?_
                              refine s_iadd hC dL_law_468 ?_
                              refine l_sld hC hX hbl hbA hLs dL_law_469 (fun v84 hv84 => ?_)
                              refine s_callV_P (As := [vI v84]) (rest := [vI r83]) (a := x + 205 + 0) hC hKA 1 (m_X5_key (b := x + 205) (I := VL G x σ B nb τ) (fun H h => VL.wd.1 _ _ h) hτ hv84) rfl (cb_of hC 1 q_c_yX5_key q_i_X5 q_m_L_64 rfl rfl dd_yX5_key ⟨Nat.le_of_ble_eq_true rfl, Nat.le_of_ble_eq_true rfl⟩) q_i_yX5_key q_x_yX5_key (s_recv hK (fun H h => VL.wd.1 _ _ h) (by decide) o_Model rfl) rfl (Nat.le_of_ble_eq_true rfl) dL_law_470 ⟨by show _ ≤ 600000; omega, by show _ ≤ 7302250; omega⟩ (fun r85 hr85 => ?_)
                              refine s_icmp_eq (tgt := 685) hC dL_law_473 (by decide) hr83 hr85 ?_ l_ret0
                              refine s_widen (k' := 59015 - N * 98) (n' := 2392674 - N * 3960) (by omega) (by omega) ?_
                              exact hj σ B nb τ hσ hB hnb hτ
                            · refine s_ite (fun hz => ?_) (fun hz12 => ?_)
                              · refine s_tabIn (tgt := 478) hC 12 dL_law_32 (i32_in _) hz (by decide) (by decide) rfl (by decide) ?_
                                refine s_aload_n hC dL_law_478 rfl 1 rfl ?_
                                refine s_aload_n hC dL_law_479 rfl 0 rfl ?_
                                refine s_iload_n hC dL_law_480 rfl 3 rfl ?_
                                refine s_iconst hC dL_law_481 ?_
                                refine s_iadd hC dL_law_482 ?_
                                refine l_sld hC hX hbl hbA hLs dL_law_483 (fun v86 hv86 => ?_)
                                refine s_aload_n hC dL_law_484 rfl 0 rfl ?_
                                refine s_iload_n hC dL_law_485 rfl 3 rfl ?_
                                refine s_iconst hC dL_law_486 ?_
                                refine s_iadd hC dL_law_487 ?_
                                refine l_sld hC hX hbl hbA hLs dL_law_488 (fun v87 hv87 => ?_)
                                refine u_up4 (V := fun σ B nb => VL G x σ B nb τ) (As := [vI v86, vI v87]) (rest := []) (a := x + 0) (mc := 0) (ms := 0) hC hKA 2 (m_X4_ifPacked (x := x) (y0 := x + 215) (V := fun σ B nb => VL G x σ B nb τ) (by omega) VL.wv hσ hB hnb hv86 hv87) (fun q h => hAx q h) rfl (cb_of hC 2 q_c_yX4_ifPacked q_i_X4 q_m_L_65 rfl rfl dd_yX4_ifPacked ⟨Nat.le_of_ble_eq_true rfl, Nat.le_of_ble_eq_true rfl⟩) q_i_yX4_ifPacked q_x_yX4_ifPacked (s_recv hK (fun H h => (VL.wv.1 _ _ _ _ h).x) (by decide) o_X rfl) rfl (Nat.le_of_ble_eq_true rfl) dL_law_489 ⟨by show _ ≤ 600000; omega, by show _ ≤ 7302250; omega⟩ (fun r88 σ89 B90 N91 hr88 hσ89 hB90 hN91 => ?_)
                                refine s_aload_n hC dL_law_492 rfl 2 rfl ?_
                                refine s_aload_n hC dL_law_493 rfl 0 rfl ?_
                                refine s_iload_n hC dL_law_494 rfl 3 rfl ?_
                                refine s_iconst hC dL_law_495 ?_
                                refine s_iadd hC dL_law_496 ?_
                                refine l_sld hC hX hbl hbA hLs dL_law_497 (fun v92 hv92 => ?_)
                                refine s_aload_n hC dL_law_498 rfl 0 rfl ?_
                                refine s_iload_n hC dL_law_499 rfl 3 rfl ?_
                                refine s_iconst hC dL_law_500 ?_
                                refine s_iadd hC dL_law_501 ?_
                                refine l_sld hC hX hbl hbA hLs dL_law_502 (fun v93 hv93 => ?_)
                                refine s_callV_W (J := fun τ => VL G x σ89 B90 N91 τ) (As := [vI v92, vI v93]) (rest := [vI r88]) (a := x + 205 + 0) hC hKA 2 (m_X5_ifPacked (b := x + 205) (J := fun τ => VL G x σ89 B90 N91 τ) VL.wd hτ hv92 hv93) (fun q h => hAm q h) rfl (cb_of hC 2 q_c_yX5_ifPacked q_i_X5 q_m_L_68 rfl rfl dd_yX5_ifPacked ⟨Nat.le_of_ble_eq_true rfl, Nat.le_of_ble_eq_true rfl⟩) q_i_yX5_ifPacked q_x_yX5_ifPacked (s_recv hK (fun H h => VL.wd.1 _ _ h) (by decide) o_Model rfl) rfl (Nat.le_of_ble_eq_true rfl) dL_law_503 ⟨by show _ ≤ 600000; omega, by show _ ≤ 7302250; omega⟩ (fun r94 τ95 hr94 hτ95 => ?_)
                                refine s_icmp_eq (tgt := 685) hC dL_law_506 (by decide) hr88 hr94 ?_ l_ret0
                                refine s_widen (k' := 59015 - N * 98) (n' := 2392674 - N * 3960) (by omega) (by omega) ?_
                                exact hj σ89 B90 N91 τ95 hσ89 hB90 hN91 hτ95
                              · refine s_ite (fun hz => ?_) (fun hz13 => ?_)
                                · refine s_tabIn (tgt := 511) hC 13 dL_law_32 (i32_in _) hz (by decide) (by decide) rfl (by decide) ?_
                                  refine s_aload_n hC dL_law_511 rfl 1 rfl ?_
                                  refine u_up4 (V := fun σ B nb => VL G x σ B nb τ) (As := []) (rest := []) (a := x + 0) (mc := 0) (ms := 0) hC hKA 0 (m_X4_bestHead (x := x) (y0 := x + 215) (V := fun σ B nb => VL G x σ B nb τ) (by omega) VL.wv hσ hB hnb) (fun q h => hAx q h) rfl (cb_of hC 0 q_c_yX4_bestHead q_i_X4 q_m_L_69 rfl rfl dd_yX4_bestHead ⟨Nat.le_of_ble_eq_true rfl, Nat.le_of_ble_eq_true rfl⟩) q_i_yX4_bestHead q_x_yX4_bestHead (s_recv hK (fun H h => (VL.wv.1 _ _ _ _ h).x) (by decide) o_X rfl) rfl (Nat.le_of_ble_eq_true rfl) dL_law_512 ⟨by show _ ≤ 600000; omega, by show _ ≤ 7302250; omega⟩ (fun r96 σ97 B98 N99 hr96 hσ97 hB98 hN99 => ?_)
                                  refine s_aload_n hC dL_law_515 rfl 2 rfl ?_
                                  refine s_callV_W (J := fun τ => VL G x σ97 B98 N99 τ) (As := []) (rest := [vI r96]) (a := x + 205 + 0) hC hKA 0 (m_X5_bestHead (b := x + 205) (J := fun τ => VL G x σ97 B98 N99 τ) VL.wd hτ) (fun q h => hAm q h) rfl (cb_of hC 0 q_c_yX5_bestHead q_i_X5 q_m_L_72 rfl rfl dd_yX5_bestHead ⟨Nat.le_of_ble_eq_true rfl, Nat.le_of_ble_eq_true rfl⟩) q_i_yX5_bestHead q_x_yX5_bestHead (s_recv hK (fun H h => VL.wd.1 _ _ h) (by decide) o_Model rfl) rfl (Nat.le_of_ble_eq_true rfl) dL_law_516 ⟨by show _ ≤ 600000; omega, by show _ ≤ 7302250; omega⟩ (fun r100 τ101 hr100 hτ101 => ?_)
                                  refine s_icmp_eq (tgt := 685) hC dL_law_519 (by decide) hr96 hr100 ?_ l_ret0
                                  refine s_widen (k' := 59015 - N * 98) (n' := 2392674 - N * 3960) (by omega) (by omega) ?_
                                  exact hj σ97 B98 N99 τ101 hσ97 hB98 hN99 hτ101
                                · refine s_ite (fun hz => ?_) (fun hz14 => ?_)
                                  · refine s_tabIn (tgt := 524) hC 14 dL_law_32 (i32_in _) hz (by decide) (by decide) rfl (by decide) ?_
                                    refine s_aload_n hC dL_law_524 rfl 1 rfl ?_
                                    refine s_aload_n hC dL_law_525 rfl 0 rfl ?_
                                    refine s_iload_n hC dL_law_526 rfl 3 rfl ?_
                                    refine s_iconst hC dL_law_527 ?_
                                    refine s_iadd hC dL_law_528 ?_
                                    refine l_sld hC hX hbl hbA hLs dL_law_529 (fun v102 hv102 => ?_)
                                    refine u_up4 (V := fun σ B nb => VL G x σ B nb τ) (As := [vI v102]) (rest := []) (a := x + 0) (mc := 0) (ms := 0) hC hKA 1 (m_X4_most (x := x) (y0 := x + 215) (V := fun σ B nb => VL G x σ B nb τ) (by omega) VL.wv hσ hB hnb hv102) (fun q h => hAx q h) rfl (cb_of hC 1 q_c_yX4_most q_i_X4 q_m_L_73 rfl rfl dd_yX4_most ⟨Nat.le_of_ble_eq_true rfl, Nat.le_of_ble_eq_true rfl⟩) q_i_yX4_most q_x_yX4_most (s_recv hK (fun H h => (VL.wv.1 _ _ _ _ h).x) (by decide) o_X rfl) rfl (Nat.le_of_ble_eq_true rfl) dL_law_530 ⟨by show _ ≤ 600000; omega, by show _ ≤ 7302250; omega⟩ (fun r103 σ104 B105 N106 hr103 hσ104 hB105 hN106 => ?_)
                                    refine s_aload_n hC dL_law_533 rfl 2 rfl ?_
                                    refine s_aload_n hC dL_law_534 rfl 0 rfl ?_
                                    refine s_iload_n hC dL_law_535 rfl 3 rfl ?_
                                    refine s_iconst hC dL_law_536 ?_
                                    refine s_iadd hC dL_law_537 ?_
                                    refine l_sld hC hX hbl hbA hLs dL_law_538 (fun v107 hv107 => ?_)
                                    refine s_callV_W (J := fun τ => VL G x σ104 B105 N106 τ) (As := [vI v107]) (rest := [vI r103]) (a := x + 205 + 0) hC hKA 1 (m_X5_most (b := x + 205) (J := fun τ => VL G x σ104 B105 N106 τ) VL.wd hτ hv107) (fun q h => hAm q h) rfl (cb_of hC 1 q_c_yX5_most q_i_X5 q_m_L_76 rfl rfl dd_yX5_most ⟨Nat.le_of_ble_eq_true rfl, Nat.le_of_ble_eq_true rfl⟩) q_i_yX5_most q_x_yX5_most (s_recv hK (fun H h => VL.wd.1 _ _ h) (by decide) o_Model rfl) rfl (Nat.le_of_ble_eq_true rfl) dL_law_539 ⟨by show _ ≤ 600000; omega, by show _ ≤ 7302250; omega⟩ (fun r108 τ109 hr108 hτ109 => ?_)
                                    refine s_icmp_eq (tgt := 685) hC dL_law_542 (by decide) hr103 hr108 ?_ l_ret0
                                    refine s_widen (k' := 59015 - N * 98) (n' := 2392674 - N * 3960) (by omega) (by omega) ?_
                                    exact hj σ104 B105 N106 τ109 hσ104 hB105 hN106 hτ109
                                  · refine s_ite (fun hz => ?_) (fun hz15 => ?_)
                                    · refine s_tabIn (tgt := 547) hC 15 dL_law_32 (i32_in _) hz (by decide) (by decide) rfl (by decide) ?_
                                      refine s_aload_n hC dL_law_547 rfl 1 rfl ?_
                                      refine s_aload_n hC dL_law_548 rfl 0 rfl ?_
                                      refine s_iload_n hC dL_law_549 rfl 3 rfl ?_
                                      refine s_iconst hC dL_law_550 ?_
                                      refine s_iadd hC dL_law_551 ?_
                                      refine l_sld hC hX hbl hbA hLs dL_law_552 (fun v110 hv110 => ?_)
                                      refine s_i2l hC dL_law_553 ?_
                                      refine s_bipush hC dL_law_554 (by decide) ?_
                                      refine l_lshl hC dL_law_556 ?_
                                      refine s_aload_n hC dL_law_557 rfl 0 rfl ?_
                                      refine s_iload_n hC dL_law_558 rfl 3 rfl ?_
                                      refine s_iconst hC dL_law_559 ?_
                                      refine s_iadd hC dL_law_560 ?_
                                      refine l_sld hC hX hbl hbA hLs dL_law_561 (fun v111 hv111 => ?_)
                                      refine s_i2l hC dL_law_562 ?_
                                      refine s_ldc2 hC q_k_L_77 dL_law_563 ?_
                                      refine s_land hC dL_law_566 ?_
                                      refine l_lor hC dL_law_567 ?_
                                      refine u_up4 (V := fun σ B nb => VL G x σ B nb τ) (As := [.long ((lshl (i2l v110) 32) ||| ((i2l v111) &&& ((4294967295 : Int64))))]) (rest := []) (a := x + 0) (mc := 0) (ms := 0) hC hKA 1 (m_X4_put (x := x) (y0 := x + 215) (V := fun σ B nb => VL G x σ B nb τ) (by omega) VL.wv hσ hB hnb) (fun q h => hAx q h) rfl (cb_of hC 1 q_c_yX4_put q_i_X4 q_m_L_79 rfl rfl dd_yX4_put ⟨Nat.le_of_ble_eq_true rfl, Nat.le_of_ble_eq_true rfl⟩) q_i_yX4_put q_x_yX4_put (s_recv hK (fun H h => (VL.wv.1 _ _ _ _ h).x) (by decide) o_X rfl) rfl (Nat.le_of_ble_eq_true rfl) dL_law_568 ⟨by show _ ≤ 600000; omega, by show _ ≤ 7302250; omega⟩ (fun r112 σ113 B114 N115 hr112 hσ113 hB114 hN115 => ?_)
                                      refine s_aload_n hC dL_law_571 rfl 2 rfl ?_
                                      refine s_aload_n hC dL_law_572 rfl 0 rfl ?_
                                      refine s_iload_n hC dL_law_573 rfl 3 rfl ?_
                                      refine s_iconst hC dL_law_574 ?_
                                      refine s_iadd hC dL_law_575 ?_
                                      refine l_sld hC hX hbl hbA hLs dL_law_576 (fun v116 hv116 => ?_)
                                      refine s_i2l hC dL_law_577 ?_
                                      refine s_bipush hC dL_law_578 (by decide) ?_
                                      refine l_lshl hC dL_law_580 ?_
                                      refine s_aload_n hC dL_law_581 rfl 0 rfl ?_
                                      refine s_iload_n hC dL_law_582 rfl 3 rfl ?_
                                      refine s_iconst hC dL_law_583 ?_
                                      refine s_iadd hC dL_law_584 ?_
                                      refine l_sld hC hX hbl hbA hLs dL_law_585 (fun v117 hv117 => ?_)
                                      refine s_i2l hC dL_law_586 ?_
                                      refine s_ldc2 hC q_k_L_77 dL_law_587 ?_
                                      refine s_land hC dL_law_590 ?_
                                      refine l_lor hC dL_law_591 ?_
                                      refine s_callV_W (J := fun τ => VL G x σ113 B114 N115 τ) (As := [.long ((lshl (i2l v116) 32) ||| ((i2l v117) &&& ((4294967295 : Int64))))]) (rest := [vI r112]) (a := x + 205 + 0) hC hKA 1 (m_X5_put (b := x + 205) (J := fun τ => VL G x σ113 B114 N115 τ) VL.wd hτ) (fun q h => hAm q h) rfl (cb_of hC 1 q_c_yX5_put q_i_X5 q_m_L_83 rfl rfl dd_yX5_put ⟨Nat.le_of_ble_eq_true rfl, Nat.le_of_ble_eq_true rfl⟩) q_i_yX5_put q_x_yX5_put (s_recv hK (fun H h => VL.wd.1 _ _ h) (by decide) o_Model rfl) rfl (Nat.le_of_ble_eq_true rfl) dL_law_592 ⟨by show _ ≤ 600000; omega, by show _ ≤ 7302250; omega⟩ (fun r118 τ119 hr118 hτ119 => ?_)
                                      refine s_icmp_eq (tgt := 685) hC dL_law_595 (by decide) hr112 hr118 ?_ l_ret0
                                      refine s_widen (k' := 59015 - N * 98) (n' := 2392674 - N * 3960) (by omega) (by omega) ?_
                                      exact hj σ113 B114 N115 τ119 hσ113 hB114 hN115 hτ119
                                    · refine s_ite (fun hz => ?_) (fun hz16 => ?_)
                                      · refine s_tabIn (tgt := 600) hC 16 dL_law_32 (i32_in _) hz (by decide) (by decide) rfl (by decide) ?_
                                        refine s_aload_n hC dL_law_600 rfl 1 rfl ?_
                                        refine u_up4 (V := fun σ B nb => VL G x σ B nb τ) (As := []) (rest := []) (a := x + 0) (mc := 0) (ms := 0) hC hKA 0 (m_X4_wipe (x := x) (y0 := x + 215) (V := fun σ B nb => VL G x σ B nb τ) (by omega) VL.wv hσ hB hnb) (fun q h => hAx q h) rfl (cb_of hC 0 q_c_yX4_wipe q_i_X4 q_m_L_84 rfl rfl dd_yX4_wipe ⟨Nat.le_of_ble_eq_true rfl, Nat.le_of_ble_eq_true rfl⟩) q_i_yX4_wipe q_x_yX4_wipe (s_recv hK (fun H h => (VL.wv.1 _ _ _ _ h).x) (by decide) o_X rfl) rfl (Nat.le_of_ble_eq_true rfl) dL_law_601 ⟨by show _ ≤ 600000; omega, by show _ ≤ 7302250; omega⟩ (fun r120 σ121 B122 N123 hr120 hσ121 hB122 hN123 => ?_)
                                        refine s_aload_n hC dL_law_604 rfl 2 rfl ?_
                                        refine s_callV_W (J := fun τ => VL G x σ121 B122 N123 τ) (As := []) (rest := [vI r120]) (a := x + 205 + 0) hC hKA 0 (m_X5_wipe (b := x + 205) (J := fun τ => VL G x σ121 B122 N123 τ) VL.wd hτ) (fun q h => hAm q h) rfl (cb_of hC 0 q_c_yX5_wipe q_i_X5 q_m_L_87 rfl rfl dd_yX5_wipe ⟨Nat.le_of_ble_eq_true rfl, Nat.le_of_ble_eq_true rfl⟩) q_i_yX5_wipe q_x_yX5_wipe (s_recv hK (fun H h => VL.wd.1 _ _ h) (by decide) o_Model rfl) rfl (Nat.le_of_ble_eq_true rfl) dL_law_605 ⟨by show _ ≤ 600000; omega, by show _ ≤ 7302250; omega⟩ (fun r124 τ125 hr124 hτ125 => ?_)
                                        refine s_icmp_eq (tgt := 685) hC dL_law_608 (by decide) hr120 hr124 ?_ l_ret0
                                        refine s_widen (k' := 59015 - N * 98) (n' := 2392674 - N * 3960) (by omega) (by omega) ?_
                                        exact hj σ121 B122 N123 τ125 hσ121 hB122 hN123 hτ125
                                      · refine s_ite (fun hz => ?_) (fun hz17 => ?_)
                                        · refine s_tabIn (tgt := 613) hC 17 dL_law_32 (i32_in _) hz (by decide) (by decide) rfl (by decide) ?_
                                          refine s_aload_n hC dL_law_613 rfl 1 rfl ?_
                                          refine u_up4 (V := fun σ B nb => VL G x σ B nb τ) (As := []) (rest := []) (a := x + 0) (mc := 0) (ms := 0) hC hKA 0 (m_X4_fault (x := x) (y0 := x + 215) (V := fun σ B nb => VL G x σ B nb τ) (by omega) VL.wv hσ hB hnb) (fun q h => hAx q h) rfl (cb_of hC 0 q_c_yX4_fault q_i_X4 q_m_L_88 rfl rfl dd_yX4_fault ⟨Nat.le_of_ble_eq_true rfl, Nat.le_of_ble_eq_true rfl⟩) q_i_yX4_fault q_x_yX4_fault (s_recv hK (fun H h => (VL.wv.1 _ _ _ _ h).x) (by decide) o_X rfl) rfl (Nat.le_of_ble_eq_true rfl) dL_law_614 ⟨by show _ ≤ 600000; omega, by show _ ≤ 7302250; omega⟩ (fun r126 σ127 B128 N129 hr126 hσ127 hB128 hN129 => ?_)
                                          refine s_aload_n hC dL_law_617 rfl 2 rfl ?_
                                          refine s_callV_P (As := []) (rest := [vI r126]) (a := x + 205 + 0) hC hKA 0 (m_X5_fault (b := x + 205) (I := VL G x σ127 B128 N129 τ) (fun H h => VL.wd.1 _ _ h) hτ) rfl (cb_of hC 0 q_c_yX5_fault q_i_X5 q_m_L_91 rfl rfl dd_yX5_fault ⟨Nat.le_of_ble_eq_true rfl, Nat.le_of_ble_eq_true rfl⟩) q_i_yX5_fault q_x_yX5_fault (s_recv hK (fun H h => VL.wd.1 _ _ h) (by decide) o_Model rfl) rfl (Nat.le_of_ble_eq_true rfl) dL_law_618 ⟨by show _ ≤ 600000; omega, by show _ ≤ 7302250; omega⟩ (fun r130 hr130 => ?_)
                                          refine s_icmp_eq (tgt := 685) hC dL_law_621 (by decide) hr126 hr130 ?_ l_ret0
                                          refine s_widen (k' := 59015 - N * 98) (n' := 2392674 - N * 3960) (by omega) (by omega) ?_
                                          exact hj σ127 B128 N129 τ hσ127 hB128 hN129 hτ
                                        · refine s_ite (fun hz => ?_) (fun hz18 => ?_)
                                          · refine s_tabIn (tgt := 626) hC 18 dL_law_32 (i32_in _) hz (by decide) (by decide) rfl (by decide) ?_
                                            refine s_aload_n hC dL_law_626 rfl 1 rfl ?_
                                            refine u_up4 (V := fun σ B nb => VL G x σ B nb τ) (As := []) (rest := []) (a := x + 0) (mc := 0) (ms := 0) hC hKA 0 (m_X4_undo (x := x) (y0 := x + 215) (V := fun σ B nb => VL G x σ B nb τ) (by omega) VL.wv hσ hB hnb) (fun q h => hAx q h) rfl (cb_of hC 0 q_c_yX4_undo q_i_X4 q_m_L_92 rfl rfl dd_yX4_undo ⟨Nat.le_of_ble_eq_true rfl, Nat.le_of_ble_eq_true rfl⟩) q_i_yX4_undo q_x_yX4_undo (s_recv hK (fun H h => (VL.wv.1 _ _ _ _ h).x) (by decide) o_X rfl) rfl (Nat.le_of_ble_eq_true rfl) dL_law_627 ⟨by show _ ≤ 600000; omega, by show _ ≤ 7302250; omega⟩ (fun r131 σ132 B133 N134 hr131 hσ132 hB133 hN134 => ?_)
                                            refine s_aload_n hC dL_law_630 rfl 2 rfl ?_
                                            refine s_callV_W (J := fun τ => VL G x σ132 B133 N134 τ) (As := []) (rest := [vI r131]) (a := x + 205 + 0) hC hKA 0 (m_X5_undo (b := x + 205) (J := fun τ => VL G x σ132 B133 N134 τ) VL.wd hτ) (fun q h => hAm q h) rfl (cb_of hC 0 q_c_yX5_undo q_i_X5 q_m_L_95 rfl rfl dd_yX5_undo ⟨Nat.le_of_ble_eq_true rfl, Nat.le_of_ble_eq_true rfl⟩) q_i_yX5_undo q_x_yX5_undo (s_recv hK (fun H h => VL.wd.1 _ _ h) (by decide) o_Model rfl) rfl (Nat.le_of_ble_eq_true rfl) dL_law_631 ⟨by show _ ≤ 600000; omega, by show _ ≤ 7302250; omega⟩ (fun r135 τ136 hr135 hτ136 => ?_)
                                            refine s_icmp_eq (tgt := 685) hC dL_law_634 (by decide) hr131 hr135 ?_ l_ret0
                                            refine s_widen (k' := 59015 - N * 98) (n' := 2392674 - N * 3960) (by omega) (by omega) ?_
                                            exact hj σ132 B133 N134 τ136 hσ132 hB133 hN134 hτ136
                                          · refine s_ite (fun hz => ?_) (fun hz19 => ?_)
                                            · refine s_tabIn (tgt := 639) hC 19 dL_law_32 (i32_in _) hz (by decide) (by decide) rfl (by decide) ?_
                                              refine s_aload_n hC dL_law_639 rfl 1 rfl ?_
                                              refine s_aload_n hC dL_law_640 rfl 0 rfl ?_
                                              refine s_iload_n hC dL_law_641 rfl 3 rfl ?_
                                              refine s_iconst hC dL_law_642 ?_
                                              refine s_iadd hC dL_law_643 ?_
                                              refine l_sld hC hX hbl hbA hLs dL_law_644 (fun v137 hv137 => ?_)
                                              refine u_up4 (V := fun σ B nb => VL G x σ B nb τ) (As := [vI v137]) (rest := []) (a := x + 0) (mc := 98) (ms := 3960) hC hKA 1 (m_X4_save (x := x) (y0 := x + 215) (V := fun σ B nb => VL G x σ B nb τ) (by omega) VL.wv hσ hB hnb hv137) (fun q h => hAx q h) rfl (cb_of hC 1 q_c_yX4_save q_i_X4 q_m_L_96 rfl rfl dd_yX4_save ⟨Nat.le_of_ble_eq_true rfl, Nat.le_of_ble_eq_true rfl⟩) q_i_yX4_save q_x_yX4_save (s_recv hK (fun H h => (VL.wv.1 _ _ _ _ h).x) (by decide) o_X rfl) rfl (Nat.le_of_ble_eq_true rfl) dL_law_645 ⟨by show _ ≤ 600000; omega, by show _ ≤ 7302250; omega⟩ (fun r138 σ139 B140 N141 hr138 hσ139 hB140 hN141 => ?_)
                                              refine s_aload_n hC dL_law_648 rfl 2 rfl ?_
                                              refine s_aload_n hC dL_law_649 rfl 0 rfl ?_
                                              refine s_iload_n hC dL_law_650 rfl 3 rfl ?_
                                              refine s_iconst hC dL_law_651 ?_
                                              refine s_iadd hC dL_law_652 ?_
                                              refine l_sld hC hX hbl hbA hLs dL_law_653 (fun v142 hv142 => ?_)
                                              refine s_callV_W (J := fun τ => VL G x σ139 B140 N141 τ) (As := [vI v142]) (rest := [vI r138]) (a := x + 205 + 0) hC hKA 1 (m_X5_save (b := x + 205) (J := fun τ => VL G x σ139 B140 N141 τ) VL.wd hτ hv142) (fun q h => hAm q h) rfl (cb_of hC 1 q_c_yX5_save q_i_X5 q_m_L_99 rfl rfl dd_yX5_save ⟨Nat.le_of_ble_eq_true rfl, Nat.le_of_ble_eq_true rfl⟩) q_i_yX5_save q_x_yX5_save (s_recv hK (fun H h => VL.wd.1 _ _ h) (by decide) o_Model rfl) rfl (Nat.le_of_ble_eq_true rfl) dL_law_654 ⟨by show _ ≤ 600000; omega, by show _ ≤ 7302250; omega⟩ (fun r143 τ144 hr143 hτ144 => ?_)
                                              refine s_icmp_eq (tgt := 685) hC dL_law_657 (by decide) hr138 hr143 ?_ l_ret0
                                              refine s_widen (k' := 59015 - N * 98) (n' := 2392674 - N * 3960) (by omega) (by omega) ?_
                                              exact hj σ139 B140 N141 τ144 hσ139 hB140 hN141 hτ144
                                            · refine s_ite (fun hz => ?_) (fun hz20 => ?_)
                                              · refine s_tabIn (tgt := 662) hC 20 dL_law_32 (i32_in _) hz (by decide) (by decide) rfl (by decide) ?_
                                                refine s_aload_n hC dL_law_662 rfl 1 rfl ?_
                                                refine s_aload_n hC dL_law_663 rfl 0 rfl ?_
                                                refine s_iload_n hC dL_law_664 rfl 3 rfl ?_
                                                refine s_iconst hC dL_law_665 ?_
                                                refine s_iadd hC dL_law_666 ?_
                                                refine l_sld hC hX hbl hbA hLs dL_law_667 (fun v145 hv145 => ?_)
                                                refine u_up4 (V := fun σ B nb => VL G x σ B nb τ) (As := [vI v145]) (rest := []) (a := x + 0) (mc := 98) (ms := 3960) hC hKA 1 (m_X4_restore (x := x) (y0 := x + 215) (V := fun σ B nb => VL G x σ B nb τ) (by omega) VL.wv hσ hB hnb hv145) (fun q h => hAx q h) rfl (cb_of hC 1 q_c_yX4_restore q_i_X4 q_m_L_100 rfl rfl dd_yX4_restore ⟨Nat.le_of_ble_eq_true rfl, Nat.le_of_ble_eq_true rfl⟩) q_i_yX4_restore q_x_yX4_restore (s_recv hK (fun H h => (VL.wv.1 _ _ _ _ h).x) (by decide) o_X rfl) rfl (Nat.le_of_ble_eq_true rfl) dL_law_668 ⟨by show _ ≤ 600000; omega, by show _ ≤ 7302250; omega⟩ (fun r146 σ147 B148 N149 hr146 hσ147 hB148 hN149 => ?_)
                                                refine s_aload_n hC dL_law_671 rfl 2 rfl ?_
                                                refine s_aload_n hC dL_law_672 rfl 0 rfl ?_
                                                refine s_iload_n hC dL_law_673 rfl 3 rfl ?_
                                                refine s_iconst hC dL_law_674 ?_
                                                refine s_iadd hC dL_law_675 ?_
                                                refine l_sld hC hX hbl hbA hLs dL_law_676 (fun v150 hv150 => ?_)
                                                refine s_callV_W (J := fun τ => VL G x σ147 B148 N149 τ) (As := [vI v150]) (rest := [vI r146]) (a := x + 205 + 0) hC hKA 1 (m_X5_restore (b := x + 205) (J := fun τ => VL G x σ147 B148 N149 τ) VL.wd hτ hv150) (fun q h => hAm q h) rfl (cb_of hC 1 q_c_yX5_restore q_i_X5 q_m_L_103 rfl rfl dd_yX5_restore ⟨Nat.le_of_ble_eq_true rfl, Nat.le_of_ble_eq_true rfl⟩) q_i_yX5_restore q_x_yX5_restore (s_recv hK (fun H h => VL.wd.1 _ _ h) (by decide) o_Model rfl) rfl (Nat.le_of_ble_eq_true rfl) dL_law_677 ⟨by show _ ≤ 600000; omega, by show _ ≤ 7302250; omega⟩ (fun r151 τ152 hr151 hτ152 => ?_)
                                                refine s_icmp_eq (tgt := 685) hC dL_law_680 (by decide) hr146 hr151 ?_ l_ret0
                                                refine s_widen (k' := 59015 - N * 98) (n' := 2392674 - N * 3960) (by omega) (by omega) ?_
                                                exact hj σ147 B148 N149 τ152 hσ147 hB148 hN149 hτ152
                                              · refine s_tabOut (tgt := 685) hC dL_law_32 (i32_in _) (by omega) (by decide) ?_
                                                refine s_widen (k' := 59015 - N * 98) (n' := 2392674 - N * 3960) (by omega) (by omega) ?_
                                                exact hj σ B nb τ hσ hB hnb hτ
