set_option maxHeartbeats 4000000 in
set_option maxRecDepth 100000 in
theorem m_X0_copyFrom {l : Launch} {G : Gt} {b : Nat} {σ : Blk} {J : Blk → Heap → Prop} (hJ : Wd G (layBook G b) 74 b J) (hσ : Rg σ) {b2 : Nat} {τ : Blk} (hO : ∀ σ H, J σ H → Bk G (layBook G b2) 74 b2 τ H) (hτ : Rg τ) : MetS l yX0_copyFrom cX0_copyFrom 3 none { frames := 2, cells := 0, slots := 0, locals := 65 } G [.ref (b + 0), .ref (b2 + 0)] (J σ) (poU J) (Ab b 74) 0 0 (f_X0_copyFrom σ τ) := by
  refine met_of (by decide) (Nat.le_of_ble_eq_true rfl) ?_
  intro p e s m below meth c hC hKA hr _
  have hK := hKA.1
  unfold f_X0_copyFrom
  refine s_sub (L' := [(0, .ref (b + 0)), (1, .ref (b2 + 0))]) [0, 1] rfl ?_
  refine s_aload_n hC dX0_copyFrom_0 rfl 0 rfl ?_
  refine s_aload_n hC dX0_copyFrom_1 rfl 1 rfl ?_
  refine s_get (b := b2) hC hK (hO σ) (by decide) o_Book rfl q_w_X0 0 (by decide) q_f_X0_9 rfl dX0_copyFrom_2 ?_
  refine s_putP (ty := .int) hC hK hJ (fun _ h => h) hσ (hτ 0 0) (by decide) o_Book rfl q_w_X0 tyX0_ok nmX0 0 (by decide) q_f_X0_9 rfl (by decide +kernel) rfl rfl (fun _ => Nat.le_of_ble_eq_true rfl) u_Book_0 dX0_copyFrom_5 (fun σ1 hσ1 => ?_)
  refine s_aload_n hC dX0_copyFrom_8 rfl 0 rfl ?_
  refine s_aload_n hC dX0_copyFrom_9 rfl 1 rfl ?_
  refine s_get (b := b2) hC hK (hO σ1) (by decide) o_Book rfl q_w_X0 1 (by decide) q_f_X0_15 rfl dX0_copyFrom_10 ?_
  refine s_putP (ty := .int) hC hK hJ (fun _ h => h) hσ1 (hτ 0 1) (by decide) o_Book rfl q_w_X0 tyX0_ok nmX0 1 (by decide) q_f_X0_15 rfl (by decide +kernel) rfl rfl (fun _ => Nat.le_of_ble_eq_true rfl) u_Book_1 dX0_copyFrom_13 (fun σ2 hσ2 => ?_)
  refine s_aload_n hC dX0_copyFrom_16 rfl 0 rfl ?_
  refine s_aload_n hC dX0_copyFrom_17 rfl 1 rfl ?_
  refine s_get (b := b2) hC hK (hO σ2) (by decide) o_Book rfl q_w_X0 2 (by decide) q_f_X0_18 rfl dX0_copyFrom_18 ?_
  refine s_putP (ty := .int) hC hK hJ (fun _ h => h) hσ2 (hτ 0 2) (by decide) o_Book rfl q_w_X0 tyX0_ok nmX0 2 (by decide) q_f_X0_18 rfl (by decide +kernel) rfl rfl (fun _ => Nat.le_of_ble_eq_true rfl) u_Book_2 dX0_copyFrom_21 (fun σ3 hσ3 => ?_)
  refine s_aload_n hC dX0_copyFrom_24 rfl 0 rfl ?_
  refine s_get (b := b) hC hK (hJ.1 σ3) (by decide) o_Book rfl q_w_X0 3 (by decide) q_f_X0_24 rfl dX0_copyFrom_25 ?_
  refine s_aload_n hC dX0_copyFrom_28 rfl 1 rfl ?_
  refine s_get (b := b2) hC hK (hO σ3) (by decide) o_Book rfl q_w_X0 3 (by decide) q_f_X0_24 rfl dX0_copyFrom_29 ?_
  refine s_callV_U (As := [.ref (b2 + 1)]) (rest := []) (a := b + 1) hC hKA 1 (m_X3_copyFrom hJ hσ3 hO hτ) (fun _ h => h) rfl (cb_of hC 1 q_c_yX3_copyFrom q_i_X3 q_m_X0_61 rfl rfl dd_yX3_copyFrom ⟨Nat.le_of_ble_eq_true rfl, Nat.le_of_ble_eq_true rfl⟩) q_i_yX3_copyFrom q_x_yX3_copyFrom (s_recv hK (hJ.1 σ3) (by decide) o_Pages rfl) rfl (Nat.le_of_ble_eq_true rfl) dX0_copyFrom_32 ⟨Nat.zero_le _, Nat.zero_le _⟩ (fun σ4 hσ4 => ?_)
  refine s_aload_n hC dX0_copyFrom_35 rfl 1 rfl ?_
  refine s_get (b := b2) hC hK (hO σ4) (by decide) o_Book rfl q_w_X0 4 (by decide) q_f_X0_28 rfl dX0_copyFrom_36 ?_
  refine s_iconst hC dX0_copyFrom_39 ?_
  refine s_aload_n hC dX0_copyFrom_40 rfl 0 rfl ?_
  refine s_get (b := b) hC hK (hJ.1 σ4) (by decide) o_Book rfl q_w_X0 4 (by decide) q_f_X0_28 rfl dX0_copyFrom_41 ?_
  refine s_iconst hC dX0_copyFrom_44 ?_
  refine s_bipush hC dX0_copyFrom_45 (by decide) ?_
  refine s_acopy hC hK hJ (fun _ h => h) hσ4 hτ (hO σ4) (by decide) a_Book_6 (by decide) a_Book_6 rfl q_m_X0_65 (Nat.le_of_ble_eq_true rfl) (Nat.le_of_ble_eq_true rfl) dX0_copyFrom_47 (fun σ5 hσ5 => ?_)
  refine s_aload_n hC dX0_copyFrom_50 rfl 1 rfl ?_
  refine s_get (b := b2) hC hK (hO σ5) (by decide) o_Book rfl q_w_X0 5 (by decide) q_f_X0_32 rfl dX0_copyFrom_51 ?_
  refine s_iconst hC dX0_copyFrom_54 ?_
  refine s_aload_n hC dX0_copyFrom_55 rfl 0 rfl ?_
  refine s_get (b := b) hC hK (hJ.1 σ5) (by decide) o_Book rfl q_w_X0 5 (by decide) q_f_X0_32 rfl dX0_copyFrom_56 ?_
  refine s_iconst hC dX0_copyFrom_59 ?_
  refine s_bipush hC dX0_copyFrom_60 (by decide) ?_
  refine s_acopy hC hK hJ (fun _ h => h) hσ5 hτ (hO σ5) (by decide) a_Book_7 (by decide) a_Book_7 rfl q_m_X0_65 (Nat.le_of_ble_eq_true rfl) (Nat.le_of_ble_eq_true rfl) dX0_copyFrom_62 (fun σ6 hσ6 => ?_)
  refine s_aload_n hC dX0_copyFrom_65 rfl 1 rfl ?_
  refine s_get (b := b2) hC hK (hO σ6) (by decide) o_Book rfl q_w_X0 6 (by decide) q_f_X0_35 rfl dX0_copyFrom_66 ?_
  refine s_iconst hC dX0_copyFrom_69 ?_
  refine s_aload_n hC dX0_copyFrom_70 rfl 0 rfl ?_
  refine s_get (b := b) hC hK (hJ.1 σ6) (by decide) o_Book rfl q_w_X0 6 (by decide) q_f_X0_35 rfl dX0_copyFrom_71 ?_
  refine s_iconst hC dX0_copyFrom_74 ?_
  refine s_bipush hC dX0_copyFrom_75 (by decide) ?_
  refine s_acopy hC hK hJ (fun _ h => h) hσ6 hτ (hO σ6) (by decide) a_Book_8 (by decide) a_Book_8 rfl q_m_X0_65 (Nat.le_of_ble_eq_true rfl) (Nat.le_of_ble_eq_true rfl) dX0_copyFrom_77 (fun σ7 hσ7 => ?_)
  refine s_aload_n hC dX0_copyFrom_80 rfl 1 rfl ?_
  refine s_get (b := b2) hC hK (hO σ7) (by decide) o_Book rfl q_w_X0 7 (by decide) q_f_X0_38 rfl dX0_copyFrom_81 ?_
  refine s_iconst hC dX0_copyFrom_84 ?_
  refine s_aload_n hC dX0_copyFrom_85 rfl 0 rfl ?_
  refine s_get (b := b) hC hK (hJ.1 σ7) (by decide) o_Book rfl q_w_X0 7 (by decide) q_f_X0_38 rfl dX0_copyFrom_86 ?_
  refine s_iconst hC dX0_copyFrom_89 ?_
  refine s_bipush hC dX0_copyFrom_90 (by decide) ?_
  refine s_acopy hC hK hJ (fun _ h => h) hσ7 hτ (hO σ7) (by decide) a_Book_9 (by decide) a_Book_9 rfl q_m_X0_65 (Nat.le_of_ble_eq_true rfl) (Nat.le_of_ble_eq_true rfl) dX0_copyFrom_92 (fun σ8 hσ8 => ?_)
  refine s_aload_n hC dX0_copyFrom_95 rfl 1 rfl ?_
  refine s_get (b := b2) hC hK (hO σ8) (by decide) o_Book rfl q_w_X0 8 (by decide) q_f_X0_41 rfl dX0_copyFrom_96 ?_
  refine s_iconst hC dX0_copyFrom_99 ?_
  refine s_aload_n hC dX0_copyFrom_100 rfl 0 rfl ?_
  refine s_get (b := b) hC hK (hJ.1 σ8) (by decide) o_Book rfl q_w_X0 8 (by decide) q_f_X0_41 rfl dX0_copyFrom_101 ?_
  refine s_iconst hC dX0_copyFrom_104 ?_
  refine s_bipush hC dX0_copyFrom_105 (by decide) ?_
  refine s_acopy hC hK hJ (fun _ h => h) hσ8 hτ (hO σ8) (by decide) a_Book_10 (by decide) a_Book_10 rfl q_m_X0_65 (Nat.le_of_ble_eq_true rfl) (Nat.le_of_ble_eq_true rfl) dX0_copyFrom_107 (fun σ9 hσ9 => ?_)
  refine s_aload_n hC dX0_copyFrom_110 rfl 1 rfl ?_
  refine s_get (b := b2) hC hK (hO σ9) (by decide) o_Book rfl q_w_X0 9 (by decide) q_f_X0_44 rfl dX0_copyFrom_111 ?_
  refine s_iconst hC dX0_copyFrom_114 ?_
  refine s_aload_n hC dX0_copyFrom_115 rfl 0 rfl ?_
  refine s_get (b := b) hC hK (hJ.1 σ9) (by decide) o_Book rfl q_w_X0 9 (by decide) q_f_X0_44 rfl dX0_copyFrom_116 ?_
  refine s_iconst hC dX0_copyFrom_119 ?_
  refine s_bipush hC dX0_copyFrom_120 (by decide) ?_
  refine s_acopy hC hK hJ (fun _ h => h) hσ9 hτ (hO σ9) (by decide) a_Book_11 (by decide) a_Book_11 rfl q_m_X0_65 (Nat.le_of_ble_eq_true rfl) (Nat.le_of_ble_eq_true rfl) dX0_copyFrom_122 (fun σ10 hσ10 => ?_)
  refine s_iconst hC dX0_copyFrom_125 ?_
  refine s_istore_n (L' := [(2, vI 0), (0, .ref (b + 0)), (1, .ref (b2 + 0))]) hC dX0_copyFrom_126 rfl (by decide) rfl ?_
  refine s_sub (L' := [(0, .ref (b + 0)), (1, .ref (b2 + 0)), (2, vI 0)]) [1, 2, 0] rfl ?_
  refine s_lp_IB (J := J) (F := f_X0_copyFrom_L127 τ) 127 (fun x11 => [(0, .ref (b + 0)), (1, .ref (b2 + 0)), (2, vI x11)]) (fun _ _ => rfl) (fun n ih127 x11 σ12 hx11 hσ12 => ?_) fu 0 σ10 (inR_c _ rfl) hσ10
  rw [f_X0_copyFrom_L127]
  refine s_iload_n hC dX0_copyFrom_127 rfl 2 rfl ?_
  refine s_bipush hC dX0_copyFrom_128 (by decide) ?_
  refine s_icmp_ge (tgt := 177) hC dX0_copyFrom_130 (by decide) hx11 (inR_c _ rfl) ?_ ?_
  · refine s_sub (L' := []) [] rfl ?_
    exact s_vret hC hr dX0_copyFrom_177 (fun H hH => ⟨rfl, hσ12, hH⟩)
  · refine s_aload_n hC dX0_copyFrom_133 rfl 1 rfl ?_
    refine s_get (b := b2) hC hK (hO σ12) (by decide) o_Book rfl q_w_X0 10 (by decide) q_f_X0_49 rfl dX0_copyFrom_134 ?_
    refine s_iload_n hC dX0_copyFrom_137 rfl 2 rfl ?_
    refine s_aaloadG (b := b2) hC hK (hO σ12) (by decide) q_Book_12 dX0_copyFrom_138 (fun q13a q13b => ?_)
    refine s_iconst hC dX0_copyFrom_139 ?_
    refine s_aload_n hC dX0_copyFrom_140 rfl 0 rfl ?_
    refine s_get (b := b) hC hK (hJ.1 σ12) (by decide) o_Book rfl q_w_X0 10 (by decide) q_f_X0_49 rfl dX0_copyFrom_141 ?_
    refine s_iload_n hC dX0_copyFrom_144 rfl 2 rfl ?_
    refine s_aaloadG (b := b) hC hK (hJ.1 σ12) (by decide) q_Book_12 dX0_copyFrom_145 (fun q14a q14b => ?_)
    refine s_iconst hC dX0_copyFrom_146 ?_
    refine s_bipush hC dX0_copyFrom_147 (by decide) ?_
    refine s_acopy hC hK hJ (fun _ h => h) hσ12 hτ (hO σ12) (by omega) (a_Book_13 (by omega)) (by omega) (a_Book_13 (by omega)) rfl q_m_X0_65 (Nat.le_of_ble_eq_true rfl) (Nat.le_of_ble_eq_true rfl) dX0_copyFrom_149 (fun σ15 hσ15 => ?_)
    refine s_aload_n hC dX0_copyFrom_152 rfl 1 rfl ?_
    refine s_get (b := b2) hC hK (hO σ15) (by decide) o_Book rfl q_w_X0 11 (by decide) q_f_X0_52 rfl dX0_copyFrom_153 ?_
    refine s_iload_n hC dX0_copyFrom_156 rfl 2 rfl ?_
    refine s_aaloadG (b := b2) hC hK (hO σ15) (by decide) q_Book_43 dX0_copyFrom_157 (fun q16a q16b => ?_)
    refine s_iconst hC dX0_copyFrom_158 ?_
    refine s_aload_n hC dX0_copyFrom_159 rfl 0 rfl ?_
    refine s_get (b := b) hC hK (hJ.1 σ15) (by decide) o_Book rfl q_w_X0 11 (by decide) q_f_X0_52 rfl dX0_copyFrom_160 ?_
    refine s_iload_n hC dX0_copyFrom_163 rfl 2 rfl ?_
    refine s_aaloadG (b := b) hC hK (hJ.1 σ15) (by decide) q_Book_43 dX0_copyFrom_164 (fun q17a q17b => ?_)
    refine s_iconst hC dX0_copyFrom_165 ?_
    refine s_bipush hC dX0_copyFrom_166 (by decide) ?_
    refine s_acopy hC hK hJ (fun _ h => h) hσ15 hτ (hO σ15) (by omega) (a_Book_44 (by omega)) (by omega) (a_Book_44 (by omega)) rfl q_m_X0_65 (Nat.le_of_ble_eq_true rfl) (Nat.le_of_ble_eq_true rfl) dX0_copyFrom_168 (fun σ18 hσ18 => ?_)
    refine s_iincK hC dX0_copyFrom_171 2 rfl (by decide) (fun v19 => [(2, vI v19), (0, .ref (b + 0)), (1, .ref (b2 + 0))]) (fun _ => rfl) (fun v19 hv19 => ?_)
    refine s_goto (tgt := 127) hC dX0_copyFrom_174 (by decide) ?_
    refine s_sub (L' := [(0, .ref (b + 0)), (1, .ref (b2 + 0)), (2, vI v19)]) [1, 2, 0] rfl ?_
    exact ih127 v19 σ18 hv19 hσ18
set_option maxHeartbeats 4000000 in
set_option maxRecDepth 100000 in
theorem m_X0_rowOf {l : Launch} {G : Gt} {b : Nat} {σ : Blk} {I : Heap → Prop} (hI : ∀ H, I H → Bk G (layBook G b) 74 b σ H) (hσ : Rg σ) {a1 : Int} (h1 : inR a1) : MetS l yX0_rowOf cX0_rowOf 2 (some .int) { frames := 0, cells := 0, slots := 0, locals := 0 } G [.ref (b + 0), vI a1] I (poP I) (fun _ => False) 0 0 (f_X0_rowOf σ a1) := by
  refine met_of (by decide) (Nat.le_of_ble_eq_true rfl) ?_
  intro p e s m below meth c hC hKA hr _
  have hK := hKA.1
  unfold f_X0_rowOf
  refine s_sub (L' := [(0, .ref (b + 0)), (1, vI a1)]) [0, 1] rfl ?_
  refine s_iload_n hC dX0_rowOf_0 rfl 1 rfl ?_
  refine s_if_lt (tgt := 10) hC dX0_rowOf_1 (by decide) h1 ?_ ?_
  · refine s_sub (L' := []) [] rfl ?_
    refine s_iconst hC dX0_rowOf_10 ?_
    refine s_goto (tgt := 20) hC dX0_rowOf_11 (by decide) ?_
    exact s_iret hC hr dX0_rowOf_20 (fun H hH => ⟨rfl, (inR_c _ rfl), hH⟩)
  · refine s_iload_n hC dX0_rowOf_4 rfl 1 rfl ?_
    refine s_bipush hC dX0_rowOf_5 (by decide) ?_
    refine s_icmp_lt (tgt := 14) hC dX0_rowOf_7 (by decide) h1 (inR_c _ rfl) ?_ ?_
    · refine s_aload_n hC dX0_rowOf_14 rfl 0 rfl ?_
      refine s_get (b := b) hC hK hI (by decide) o_Book rfl q_w_X0 4 (by decide) q_f_X0_28 rfl dX0_rowOf_15 ?_
      refine s_iload_n hC dX0_rowOf_18 rfl 1 rfl ?_
      refine s_iaload hC hK hI hσ (by decide) a_Book_6 dX0_rowOf_19 (fun v1 hv1 => ?_)
      refine s_sub (L' := []) [] rfl ?_
      exact s_iret hC hr dX0_rowOf_20 (fun H hH => ⟨rfl, hv1, hH⟩)
    · refine s_sub (L' := []) [] rfl ?_
      refine s_iconst hC dX0_rowOf_10 ?_
      refine s_goto (tgt := 20) hC dX0_rowOf_11 (by decide) ?_
      exact s_iret hC hr dX0_rowOf_20 (fun H hH => ⟨rfl, (inR_c _ rfl), hH⟩)
set_option maxHeartbeats 4000000 in
set_option maxRecDepth 100000 in
theorem m_X0_addRow {l : Launch} {G : Gt} {b : Nat} {σ : Blk} {J : Blk → Heap → Prop} (hJ : Wd G (layBook G b) 74 b J) (hσ : Rg σ) {a1 : Int} (h1 : inR a1) : MetS l yX0_addRow cX0_addRow 3 (some .int) { frames := 0, cells := 0, slots := 0, locals := 0 } G [.ref (b + 0), vI a1] (J σ) (poW J) (Ab b 74) 0 0 (f_X0_addRow σ a1) := by
  refine met_of (by decide) (Nat.le_of_ble_eq_true rfl) ?_
  intro p e s m below meth c hC hKA hr _
  have hK := hKA.1
  unfold f_X0_addRow
  refine s_sub (L' := [(0, .ref (b + 0)), (1, vI a1)]) [0, 1] rfl ?_
  refine s_iconst hC dX0_addRow_0 ?_
  refine s_istore_n (L' := [(2, vI 0), (0, .ref (b + 0)), (1, vI a1)]) hC dX0_addRow_1 rfl (by decide) rfl ?_
  refine s_sub (L' := [(0, .ref (b + 0)), (1, vI a1), (2, vI 0)]) [1, 2, 0] rfl ?_
  refine s_lp_I (F := f_X0_addRow_L2 σ a1) 2 (fun x1 => [(0, .ref (b + 0)), (1, vI a1), (2, vI x1)]) (fun _ => rfl) (fun n ih2 x1 hx1 => ?_) fu 0 (inR_c _ rfl)
  rw [f_X0_addRow_L2]
  refine s_iload_n hC dX0_addRow_2 rfl 2 rfl ?_
  refine s_bipush hC dX0_addRow_3 (by decide) ?_
  refine s_icmp_ge (tgt := 50) hC dX0_addRow_5 (by decide) hx1 (inR_c _ rfl) ?_ ?_
  · refine s_sub (L' := []) [] rfl ?_
    refine s_iconst hC dX0_addRow_50 ?_
    exact s_iret hC hr dX0_addRow_51 (fun H hH => ⟨rfl, (inR_c _ rfl), hσ, hH⟩)
  · refine s_aload_n hC dX0_addRow_8 rfl 0 rfl ?_
    refine s_get (b := b) hC hK (hJ.1 σ) (by decide) o_Book rfl q_w_X0 5 (by decide) q_f_X0_32 rfl dX0_addRow_9 ?_
    refine s_iload_n hC dX0_addRow_12 rfl 2 rfl ?_
    refine s_iaload hC hK (hJ.1 σ) hσ (by decide) a_Book_7 dX0_addRow_13 (fun v2 hv2 => ?_)
    refine s_iconst hC dX0_addRow_14 ?_
    refine s_icmp_ne (tgt := 44) hC dX0_addRow_15 (by decide) hv2 (inR_c _ rfl) ?_ ?_
    · refine s_iincK hC dX0_addRow_44 2 rfl (by decide) (fun v3 => [(2, vI v3), (0, .ref (b + 0)), (1, vI a1)]) (fun _ => rfl) (fun v3 hv3 => ?_)
      refine s_goto (tgt := 2) hC dX0_addRow_47 (by decide) ?_
      refine s_sub (L' := [(0, .ref (b + 0)), (1, vI a1), (2, vI v3)]) [1, 2, 0] rfl ?_
      exact ih2 v3 hv3
    · refine s_aload_n hC dX0_addRow_18 rfl 0 rfl ?_
      refine s_get (b := b) hC hK (hJ.1 σ) (by decide) o_Book rfl q_w_X0 5 (by decide) q_f_X0_32 rfl dX0_addRow_19 ?_
      refine s_iload_n hC dX0_addRow_22 rfl 2 rfl ?_
      refine s_iload_n hC dX0_addRow_23 rfl 1 rfl ?_
      refine s_iastore hC hK hJ (fun _ h => h) hσ h1 (by decide) a_Book_7 dX0_addRow_24 (fun σ4 hσ4 => ?_)
      refine s_aload_n hC dX0_addRow_25 rfl 0 rfl ?_
      refine s_get (b := b) hC hK (hJ.1 σ4) (by decide) o_Book rfl q_w_X0 4 (by decide) q_f_X0_28 rfl dX0_addRow_26 ?_
      refine s_iload_n hC dX0_addRow_29 rfl 1 rfl ?_
      refine s_iload_n hC dX0_addRow_30 rfl 2 rfl ?_
      refine s_iastore hC hK hJ (fun _ h => h) hσ4 hx1 (by decide) a_Book_6 dX0_addRow_31 (fun σ5 hσ5 => ?_)
      refine s_aload_n hC dX0_addRow_32 rfl 0 rfl ?_
      refine s_dup hC dX0_addRow_33 rfl ?_
      refine s_get (b := b) hC hK (hJ.1 σ5) (by decide) o_Book rfl q_w_X0 2 (by decide) q_f_X0_18 rfl dX0_addRow_34 ?_
      refine s_iconst hC dX0_addRow_37 ?_
      refine s_iadd hC dX0_addRow_38 ?_
      refine s_ck0 (fun v6 hv6 => ?_)
      refine s_putP (ty := .int) hC hK hJ (fun _ h => h) hσ5 hv6 (by decide) o_Book rfl q_w_X0 tyX0_ok nmX0 2 (by decide) q_f_X0_18 rfl (by decide +kernel) rfl rfl (fun _ => Nat.le_of_ble_eq_true rfl) u_Book_2 dX0_addRow_39 (fun σ7 hσ7 => ?_)
      refine s_iload_n hC dX0_addRow_42 rfl 2 rfl ?_
      exact s_iret hC hr dX0_addRow_43 (fun H hH => ⟨rfl, hx1, hσ7, hH⟩)
set_option maxHeartbeats 4000000 in
set_option maxRecDepth 100000 in
theorem m_X0_headLetters {l : Launch} {G : Gt} {b : Nat} {σ : Blk} {I : Heap → Prop} (hI : ∀ H, I H → Bk G (layBook G b) 74 b σ H) (hσ : Rg σ) {a1 : Int} (h1 : inR a1) : MetS l yX0_headLetters cX0_headLetters 2 (some .int) { frames := 1, cells := 0, slots := 0, locals := 21 } G [.ref (b + 0), vI a1] I (poP I) (fun _ => False) 0 0 (f_X0_headLetters σ a1) := by
  refine met_of (by decide) (Nat.le_of_ble_eq_true rfl) ?_
  intro p e s m below meth c hC hKA hr _
  have hK := hKA.1
  unfold f_X0_headLetters
  refine s_sub (L' := [(0, .ref (b + 0)), (1, vI a1)]) [0, 1] rfl ?_
  refine s_aload_n hC dX0_headLetters_0 rfl 0 rfl ?_
  refine s_get (b := b) hC hK hI (by decide) o_Book rfl q_w_X0 6 (by decide) q_f_X0_35 rfl dX0_headLetters_1 ?_
  refine s_iload_n hC dX0_headLetters_4 rfl 1 rfl ?_
  refine s_iaload hC hK hI hσ (by decide) a_Book_8 dX0_headLetters_5 (fun v1 hv1 => ?_)
  refine s_aload_n hC dX0_headLetters_6 rfl 0 rfl ?_
  refine s_get (b := b) hC hK hI (by decide) o_Book rfl q_w_X0 0 (by decide) q_f_X0_9 rfl dX0_headLetters_7 ?_
  refine s_mmin hC hv1 (hσ 0 0) q_m_X0_116 q_s_Lib_Math_min_name q_i_J9 q_c_yJ9_min_7cf53 (Nat.le_of_ble_eq_true rfl) (Nat.le_of_ble_eq_true rfl) ⟨Nat.zero_le _, Nat.zero_le _⟩ dX0_headLetters_10 ?_
  exact s_iret hC hr dX0_headLetters_13 (fun H hH => ⟨rfl, (imin_in hv1 (hσ 0 0)), hH⟩)
set_option maxHeartbeats 4000000 in
set_option maxRecDepth 100000 in
theorem m_X0_headCells {l : Launch} {G : Gt} {b : Nat} {σ : Blk} {I : Heap → Prop} (hI : ∀ H, I H → Bk G (layBook G b) 74 b σ H) (hσ : Rg σ) {a1 : Int} (h1 : inR a1) : MetS l yX0_headCells cX0_headCells 2 (some .int) { frames := 2, cells := 0, slots := 0, locals := 42 } G [.ref (b + 0), vI a1] I (poP I) (fun _ => False) 0 0 (f_X0_headCells σ a1) := by
  refine met_of (by decide) (Nat.le_of_ble_eq_true rfl) ?_
  intro p e s m below meth c hC hKA hr _
  have hK := hKA.1
  unfold f_X0_headCells
  refine s_sub (L' := [(0, .ref (b + 0)), (1, vI a1)]) [0, 1] rfl ?_
  refine s_iconst hC dX0_headCells_0 ?_
  refine s_aload_n hC dX0_headCells_1 rfl 0 rfl ?_
  refine s_iload_n hC dX0_headCells_2 rfl 1 rfl ?_
  refine s_callV_P (As := [vI a1]) (rest := [vI 2]) (a := b + 0) hC hKA 1 (m_X0_headLetters hI hσ h1) rfl (cb_of hC 1 q_c_yX0_headLetters q_i_X0 q_m_X0_113 rfl rfl dd_yX0_headLetters ⟨Nat.le_of_ble_eq_true rfl, Nat.le_of_ble_eq_true rfl⟩) q_i_yX0_headLetters q_x_yX0_headLetters (s_recv hK hI (by decide) o_Book rfl) rfl (Nat.le_of_ble_eq_true rfl) dX0_headCells_3 ⟨Nat.zero_le _, Nat.zero_le _⟩ (fun r1 hr1 => ?_)
  refine s_iadd hC dX0_headCells_6 ?_
  refine s_ck0 (fun v2 hv2 => ?_)
  exact s_iret hC hr dX0_headCells_7 (fun H hH => ⟨rfl, hv2, hH⟩)
set_option maxHeartbeats 4000000 in
set_option maxRecDepth 100000 in
theorem m_X0_layPieces {l : Launch} {G : Gt} {b : Nat} {σ : Blk} {J : Blk → Heap → Prop} (hJ : Wd G (layBook G b) 74 b J) (hσ : Rg σ) {a1 : Int} (h1 : inR a1) : MetS l yX0_layPieces cX0_layPieces 6 (some .boolean) { frames := 2, cells := 0, slots := 0, locals := 49 } G [.ref (b + 0), vI a1] (J σ) (poW J) (Ab b 74) 0 0 (f_X0_layPieces σ a1) := by
  refine met_of (by decide) (Nat.le_of_ble_eq_true rfl) ?_
  intro p e s m below meth c hC hKA hr _
  have hK := hKA.1
  unfold f_X0_layPieces
  refine s_sub (L' := [(0, .ref (b + 0)), (1, vI a1)]) [0, 1] rfl ?_
  refine s_aload_n hC dX0_layPieces_0 rfl 0 rfl ?_
  refine s_get (b := b) hC hK (hJ.1 σ) (by decide) o_Book rfl q_w_X0 6 (by decide) q_f_X0_35 rfl dX0_layPieces_1 ?_
  refine s_iload_n hC dX0_layPieces_4 rfl 1 rfl ?_
  refine s_iaload hC hK (hJ.1 σ) hσ (by decide) a_Book_8 dX0_layPieces_5 (fun v1 hv1 => ?_)
  refine s_aload_n hC dX0_layPieces_6 rfl 0 rfl ?_
  refine s_iload_n hC dX0_layPieces_7 rfl 1 rfl ?_
  refine s_callV_P (As := [vI a1]) (rest := [vI v1]) (a := b + 0) hC hKA 1 (m_X0_headLetters (hJ.1 σ) hσ h1) rfl (cb_of hC 1 q_c_yX0_headLetters q_i_X0 q_m_X0_113 rfl rfl dd_yX0_headLetters ⟨Nat.le_of_ble_eq_true rfl, Nat.le_of_ble_eq_true rfl⟩) q_i_yX0_headLetters q_x_yX0_headLetters (s_recv hK (hJ.1 σ) (by decide) o_Book rfl) rfl (Nat.le_of_ble_eq_true rfl) dX0_layPieces_8 ⟨Nat.zero_le _, Nat.zero_le _⟩ (fun r2 hr2 => ?_)
  refine s_isub hC dX0_layPieces_11 ?_
  refine s_ck0 (fun v3 hv3 => ?_)
  refine s_istore_n (L' := [(2, vI v3), (0, .ref (b + 0)), (1, vI a1)]) hC dX0_layPieces_12 rfl (by decide) rfl ?_
  refine s_iconst hC dX0_layPieces_13 ?_
  refine s_istore_n (L' := [(3, vI 0), (2, vI v3), (0, .ref (b + 0)), (1, vI a1)]) hC dX0_layPieces_14 rfl (by decide) rfl ?_
  refine s_sub (L' := [(0, .ref (b + 0)), (1, vI a1), (2, vI v3), (3, vI 0)]) [2, 3, 1, 0] rfl ?_
  refine s_jp_IB (J := J) 84 (fun x5 => [(0, .ref (b + 0)), (1, vI a1), (3, vI x5)]) (fun x5 => []) (fun x5 σ6 hx5 hσ6 => ?_) (fun j4 hj4 => ?_)
  · refine s_aload_n hC dX0_layPieces_84 rfl 0 rfl ?_
    refine s_get (b := b) hC hK (hJ.1 σ6) (by decide) o_Book rfl q_w_X0 9 (by decide) q_f_X0_44 rfl dX0_layPieces_85 ?_
    refine s_iload_n hC dX0_layPieces_88 rfl 1 rfl ?_
    refine s_iload_n hC dX0_layPieces_89 rfl 2 rfl ?_
    refine s_iastore hC hK hJ (fun _ h => h) hσ6 hx5 (by decide) a_Book_11 dX0_layPieces_90 (fun σ7 hσ7 => ?_)
    refine s_iconst hC dX0_layPieces_91 ?_
    exact s_zret hC hr (Or.inr rfl) dX0_layPieces_92 (fun H hH => ⟨rfl, (inR_c _ rfl), hσ7, hH⟩)
  · refine s_lp_IIB (J := J) (F := f_X0_layPieces_L15 a1 j4) 15 (fun x8 x9 => [(0, .ref (b + 0)), (1, vI a1), (2, vI x8), (3, vI x9)]) (fun _ _ _ => rfl) (fun n ih15 x8 x9 σ10 hx8 hx9 hσ10 => ?_) fu v3 0 σ hv3 (inR_c _ rfl) hσ
    rw [f_X0_layPieces_L15]
    refine s_iload_n hC dX0_layPieces_15 rfl 3 rfl ?_
    refine s_bipush hC dX0_layPieces_16 (by decide) ?_
    refine s_icmp_ge (tgt := 84) hC dX0_layPieces_18 (by decide) hx9 (inR_c _ rfl) ?_ ?_
    · refine s_sub (L' := [(0, .ref (b + 0)), (1, vI a1), (3, vI x9)]) [0, 1, 3] rfl ?_
      exact hj4 x9 σ10 hx9 hσ10
    · refine s_iload_n hC dX0_layPieces_21 rfl 2 rfl ?_
      refine s_if_le (tgt := 84) hC dX0_layPieces_22 (by decide) hx8 ?_ ?_
      · refine s_sub (L' := [(0, .ref (b + 0)), (1, vI a1), (3, vI x9)]) [0, 1, 3] rfl ?_
        exact hj4 x9 σ10 hx9 hσ10
      · refine s_iload_n hC dX0_layPieces_25 rfl 2 rfl ?_
        refine s_aload_n hC dX0_layPieces_26 rfl 0 rfl ?_
        refine s_get (b := b) hC hK (hJ.1 σ10) (by decide) o_Book rfl q_w_X0 1 (by decide) q_f_X0_15 rfl dX0_layPieces_27 ?_
        refine s_mmin hC hx8 (hσ10 0 1) q_m_X0_116 q_s_Lib_Math_min_name q_i_J9 q_c_yJ9_min_7cf53 (Nat.le_of_ble_eq_true rfl) (Nat.le_of_ble_eq_true rfl) ⟨Nat.zero_le _, Nat.zero_le _⟩ dX0_layPieces_30 ?_
        refine s_nm ((imin_in hx8 (hσ10 0 1))) (fun v11 hv11 => ?_)
        refine s_istore (L' := [(4, vI v11), (0, .ref (b + 0)), (1, vI a1), (2, vI x8), (3, vI x9)]) hC dX0_layPieces_33 (by decide) rfl ?_
        refine s_aload_n hC dX0_layPieces_35 rfl 1 rfl ?_
        refine s_get (b := b) hC hK (hJ.1 σ10) (by decide) o_Book rfl q_w_X0 3 (by decide) q_f_X0_24 rfl dX0_layPieces_36 ?_
        refine s_iconst hC dX0_layPieces_39 ?_
        refine s_aload_n hC dX0_layPieces_40 rfl 1 rfl ?_
        refine s_get (b := b) hC hK (hJ.1 σ10) (by decide) o_Book rfl q_w_X0 5 (by decide) q_f_X0_32 rfl dX0_layPieces_41 ?_
        refine s_iload_n hC dX0_layPieces_44 rfl 2 rfl ?_
        refine s_iaload hC hK (hJ.1 σ10) hσ10 (by decide) a_Book_7 dX0_layPieces_45 (fun v12 hv12 => ?_)
        refine s_iconst hC dX0_layPieces_46 ?_
        refine s_iload hC dX0_layPieces_47 0 rfl ?_
        refine s_iadd hC dX0_layPieces_49 ?_
        refine s_ck0 (fun v13 hv13 => ?_)
        refine s_callV_W (As := [vI 2, vI v12, vI v13]) (rest := []) (a := b + 1) hC hKA 3 (m_X3_place hJ hσ10 (inR_c _ rfl) hv12 hv13) (fun _ h => h) rfl (cb_of hC 3 q_c_yX3_place q_i_X3 q_m_X0_88 rfl rfl dd_yX3_place ⟨Nat.le_of_ble_eq_true rfl, Nat.le_of_ble_eq_true rfl⟩) q_i_yX3_place q_x_yX3_place (s_recv hK (hJ.1 σ10) (by decide) o_Pages rfl) rfl (Nat.le_of_ble_eq_true rfl) dX0_layPieces_50 ⟨Nat.zero_le _, Nat.zero_le _⟩ (fun r14 σ15 hr14 hσ15 => ?_)
        refine s_istore (L' := [(5, vI r14), (4, vI v11), (0, .ref (b + 0)), (1, vI a1), (2, vI x8), (3, vI x9)]) hC dX0_layPieces_53 (by decide) rfl ?_
        refine s_iload hC dX0_layPieces_55 0 rfl ?_
        refine s_iconst hC dX0_layPieces_57 ?_
        refine s_icmp_ne (tgt := 63) hC dX0_layPieces_58 (by decide) hr14 (inR_c _ rfl) ?_ ?_
        · refine s_sub (L' := [(0, .ref (b + 0)), (1, vI a1), (2, vI x8), (3, vI x9), (4, vI v11), (5, vI r14)]) [2, 3, 4, 5, 1, 0] rfl ?_
          refine s_aload_n hC dX0_layPieces_63 rfl 0 rfl ?_
          refine s_get (b := b) hC hK (hJ.1 σ15) (by decide) o_Book rfl q_w_X0 10 (by decide) q_f_X0_49 rfl dX0_layPieces_64 ?_
          refine s_iload_n hC dX0_layPieces_67 rfl 1 rfl ?_
          refine s_aaloadG (b := b) hC hK (hJ.1 σ15) (by decide) q_Book_12 dX0_layPieces_68 (fun q16a q16b => ?_)
          refine s_iload_n hC dX0_layPieces_69 rfl 3 rfl ?_
          refine s_iload hC dX0_layPieces_70 5 rfl ?_
          refine s_iastore hC hK hJ (fun _ h => h) hσ15 hr14 (by omega) (a_Book_13 (by omega)) dX0_layPieces_72 (fun σ17 hσ17 => ?_)
          refine s_iload_n hC dX0_layPieces_73 rfl 2 rfl ?_
          refine s_iload hC dX0_layPieces_74 4 rfl ?_
          refine s_isub hC dX0_layPieces_76 ?_
          refine s_ck0 (fun v18 hv18 => ?_)
          refine s_istore_n (L' := [(2, vI v18), (0, .ref (b + 0)), (1, vI a1), (3, vI x9), (4, vI v11), (5, vI r14)]) hC dX0_layPieces_77 rfl (by decide) rfl ?_
          refine s_iincK hC dX0_layPieces_78 3 rfl (by decide) (fun v19 => [(3, vI v19), (2, vI v18), (0, .ref (b + 0)), (1, vI a1), (4, vI v11), (5, vI r14)]) (fun _ => rfl) (fun v19 hv19 => ?_)
          refine s_goto (tgt := 15) hC dX0_layPieces_81 (by decide) ?_
          refine s_sub (L' := [(0, .ref (b + 0)), (1, vI a1), (2, vI v18), (3, vI v19)]) [2, 3, 1, 0] rfl ?_
          exact ih15 v18 v19 σ17 hv18 hv19 hσ17
        · refine s_sub (L' := []) [] rfl ?_
          refine s_iconst hC dX0_layPieces_61 ?_
          exact s_zret hC hr (Or.inl rfl) dX0_layPieces_62 (fun H hH => ⟨rfl, (inR_c _ rfl), hσ15, hH⟩)
set_option maxHeartbeats 4000000 in
set_option maxRecDepth 100000 in
theorem m_X0_layNew {l : Launch} {G : Gt} {b : Nat} {σ : Blk} {J : Blk → Heap → Prop} (hJ : Wd G (layBook G b) 74 b J) (hσ : Rg σ) {a1 : Int} (h1 : inR a1) : MetS l yX0_layNew cX0_layNew 3 (some .boolean) { frames := 3, cells := 0, slots := 0, locals := 74 } G [.ref (b + 0), vI a1] (J σ) (poW J) (Ab b 74) 0 0 (f_X0_layNew σ a1) := by
  refine met_of (by decide) (Nat.le_of_ble_eq_true rfl) ?_
  intro p e s m below meth c hC hKA hr _
  have hK := hKA.1
  unfold f_X0_layNew
  refine s_sub (L' := [(0, .ref (b + 0)), (1, vI a1)]) [0, 1] rfl ?_
  refine s_aload_n hC dX0_layNew_0 rfl 0 rfl ?_
  refine s_get (b := b) hC hK (hJ.1 σ) (by decide) o_Book rfl q_w_X0 3 (by decide) q_f_X0_24 rfl dX0_layNew_1 ?_
  refine s_iconst hC dX0_layNew_4 ?_
  refine s_aload_n hC dX0_layNew_5 rfl 0 rfl ?_
  refine s_get (b := b) hC hK (hJ.1 σ) (by decide) o_Book rfl q_w_X0 5 (by decide) q_f_X0_32 rfl dX0_layNew_6 ?_
  refine s_iload_n hC dX0_layNew_9 rfl 1 rfl ?_
  refine s_iaload hC hK (hJ.1 σ) hσ (by decide) a_Book_7 dX0_layNew_10 (fun v1 hv1 => ?_)
  refine s_aload_n hC dX0_layNew_11 rfl 0 rfl ?_
  refine s_iload_n hC dX0_layNew_12 rfl 1 rfl ?_
  refine s_callV_P (As := [vI a1]) (rest := [vI v1, vI 1, .ref (b + 1)]) (a := b + 0) hC hKA 1 (m_X0_headCells (hJ.1 σ) hσ h1) rfl (cb_of hC 1 q_c_yX0_headCells q_i_X0 q_m_X0_85 rfl rfl dd_yX0_headCells ⟨Nat.le_of_ble_eq_true rfl, Nat.le_of_ble_eq_true rfl⟩) q_i_yX0_headCells q_x_yX0_headCells (s_recv hK (hJ.1 σ) (by decide) o_Book rfl) rfl (Nat.le_of_ble_eq_true rfl) dX0_layNew_13 ⟨Nat.zero_le _, Nat.zero_le _⟩ (fun r2 hr2 => ?_)
  refine s_callV_W (As := [vI 1, vI v1, vI r2]) (rest := []) (a := b + 1) hC hKA 3 (m_X3_place hJ hσ (inR_c _ rfl) hv1 hr2) (fun _ h => h) rfl (cb_of hC 3 q_c_yX3_place q_i_X3 q_m_X0_88 rfl rfl dd_yX3_place ⟨Nat.le_of_ble_eq_true rfl, Nat.le_of_ble_eq_true rfl⟩) q_i_yX3_place q_x_yX3_place (s_recv hK (hJ.1 σ) (by decide) o_Pages rfl) rfl (Nat.le_of_ble_eq_true rfl) dX0_layNew_16 ⟨Nat.zero_le _, Nat.zero_le _⟩ (fun r3 σ4 hr3 hσ4 => ?_)
  refine s_istore_n (L' := [(2, vI r3), (0, .ref (b + 0)), (1, vI a1)]) hC dX0_layNew_19 rfl (by decide) rfl ?_
  refine s_aload_n hC dX0_layNew_20 rfl 1 rfl ?_
  refine s_get (b := b) hC hK (hJ.1 σ4) (by decide) o_Book rfl q_w_X0 7 (by decide) q_f_X0_38 rfl dX0_layNew_21 ?_
  refine s_iload_n hC dX0_layNew_24 rfl 2 rfl ?_
  refine s_iload_n hC dX0_layNew_25 rfl 0 rfl ?_
  refine s_iastore hC hK hJ (fun _ h => h) hσ4 hr3 (by decide) a_Book_9 dX0_layNew_26 (fun σ5 hσ5 => ?_)
  refine s_aload_n hC dX0_layNew_27 rfl 1 rfl ?_
  refine s_get (b := b) hC hK (hJ.1 σ5) (by decide) o_Book rfl q_w_X0 8 (by decide) q_f_X0_41 rfl dX0_layNew_28 ?_
  refine s_iload_n hC dX0_layNew_31 rfl 2 rfl ?_
  refine s_iload_n hC dX0_layNew_32 rfl 0 rfl ?_
  refine s_iastore hC hK hJ (fun _ h => h) hσ5 hr3 (by decide) a_Book_10 dX0_layNew_33 (fun σ6 hσ6 => ?_)
  refine s_iload_n hC dX0_layNew_34 rfl 0 rfl ?_
  refine s_iconst hC dX0_layNew_35 ?_
  refine s_icmp_eq (tgt := 51) hC dX0_layNew_36 (by decide) hr3 (inR_c _ rfl) ?_ ?_
  · refine s_sub (L' := []) [] rfl ?_
    refine s_iconst hC dX0_layNew_51 ?_
    exact s_zret hC hr (Or.inl rfl) dX0_layNew_52 (fun H hH => ⟨rfl, (inR_c _ rfl), hσ6, hH⟩)
  · refine s_sub (L' := [(0, .ref (b + 0)), (1, vI a1)]) [1, 2] rfl ?_
    refine s_aload_n hC dX0_layNew_39 rfl 0 rfl ?_
    refine s_iload_n hC dX0_layNew_40 rfl 1 rfl ?_
    refine s_callV_W (As := [vI a1]) (rest := []) (a := b + 0) hC hKA 1 (m_X0_layPieces hJ hσ6 h1) (fun _ h => h) rfl (cb_of hC 1 q_c_yX0_layPieces q_i_X0 q_m_X0_92 rfl rfl dd_yX0_layPieces ⟨Nat.le_of_ble_eq_true rfl, Nat.le_of_ble_eq_true rfl⟩) q_i_yX0_layPieces q_x_yX0_layPieces (s_recv hK (hJ.1 σ6) (by decide) o_Book rfl) rfl (Nat.le_of_ble_eq_true rfl) dX0_layNew_41 ⟨Nat.zero_le _, Nat.zero_le _⟩ (fun r7 σ8 hr7 hσ8 => ?_)
    refine s_if_eq (tgt := 51) hC dX0_layNew_44 (by decide) hr7 ?_ ?_
    · refine s_sub (L' := []) [] rfl ?_
      refine s_iconst hC dX0_layNew_51 ?_
      exact s_zret hC hr (Or.inl rfl) dX0_layNew_52 (fun H hH => ⟨rfl, (inR_c _ rfl), hσ8, hH⟩)
    · refine s_sub (L' := []) [] rfl ?_
      refine s_iconst hC dX0_layNew_47 ?_
      refine s_goto (tgt := 52) hC dX0_layNew_48 (by decide) ?_
      exact s_zret hC hr (Or.inr rfl) dX0_layNew_52 (fun H hH => ⟨rfl, (inR_c _ rfl), hσ8, hH⟩)
set_option maxHeartbeats 4000000 in
set_option maxRecDepth 100000 in
theorem m_X0_liftPieces {l : Launch} {G : Gt} {b : Nat} {σ : Blk} {J : Blk → Heap → Prop} (hJ : Wd G (layBook G b) 74 b J) (hσ : Rg σ) {a1 : Int} (h1 : inR a1) : MetS l yX0_liftPieces cX0_liftPieces 3 none { frames := 1, cells := 0, slots := 0, locals := 21 } G [.ref (b + 0), vI a1] (J σ) (poU J) (Ab b 74) 0 0 (f_X0_liftPieces σ a1) := by
  refine met_of (by decide) (Nat.le_of_ble_eq_true rfl) ?_
  intro p e s m below meth c hC hKA hr _
  have hK := hKA.1
  unfold f_X0_liftPieces
  refine s_sub (L' := [(0, .ref (b + 0)), (1, vI a1)]) [0, 1] rfl ?_
  refine s_iconst hC dX0_liftPieces_0 ?_
  refine s_istore_n (L' := [(2, vI 0), (0, .ref (b + 0)), (1, vI a1)]) hC dX0_liftPieces_1 rfl (by decide) rfl ?_
  refine s_sub (L' := [(0, .ref (b + 0)), (1, vI a1), (2, vI 0)]) [1, 2, 0] rfl ?_
  refine s_jp_B (J := J) 33 ([(0, .ref (b + 0)), (1, vI a1)]) ([]) (fun σ2 hσ2 => ?_) (fun j1 hj1 => ?_)
  · refine s_aload_n hC dX0_liftPieces_33 rfl 0 rfl ?_
    refine s_get (b := b) hC hK (hJ.1 σ2) (by decide) o_Book rfl q_w_X0 9 (by decide) q_f_X0_44 rfl dX0_liftPieces_34 ?_
    refine s_iload_n hC dX0_liftPieces_37 rfl 1 rfl ?_
    refine s_iconst hC dX0_liftPieces_38 ?_
    refine s_iastore hC hK hJ (fun _ h => h) hσ2 (inR_c _ rfl) (by decide) a_Book_11 dX0_liftPieces_39 (fun σ3 hσ3 => ?_)
    exact s_vret hC hr dX0_liftPieces_40 (fun H hH => ⟨rfl, hσ3, hH⟩)
  · refine s_lp_IB (J := J) (F := f_X0_liftPieces_L2 a1 j1) 2 (fun x4 => [(0, .ref (b + 0)), (1, vI a1), (2, vI x4)]) (fun _ _ => rfl) (fun n ih2 x4 σ5 hx4 hσ5 => ?_) fu 0 σ (inR_c _ rfl) hσ
    rw [f_X0_liftPieces_L2]
    refine s_iload_n hC dX0_liftPieces_2 rfl 2 rfl ?_
    refine s_aload_n hC dX0_liftPieces_3 rfl 0 rfl ?_
    refine s_get (b := b) hC hK (hJ.1 σ5) (by decide) o_Book rfl q_w_X0 9 (by decide) q_f_X0_44 rfl dX0_liftPieces_4 ?_
    refine s_iload_n hC dX0_liftPieces_7 rfl 1 rfl ?_
    refine s_iaload hC hK (hJ.1 σ5) hσ5 (by decide) a_Book_11 dX0_liftPieces_8 (fun v6 hv6 => ?_)
    refine s_icmp_ge (tgt := 33) hC dX0_liftPieces_9 (by decide) hx4 hv6 ?_ ?_
    · refine s_sub (L' := [(0, .ref (b + 0)), (1, vI a1)]) [0, 1] rfl ?_
      exact hj1 σ5 hσ5
    · refine s_aload_n hC dX0_liftPieces_12 rfl 0 rfl ?_
      refine s_get (b := b) hC hK (hJ.1 σ5) (by decide) o_Book rfl q_w_X0 3 (by decide) q_f_X0_24 rfl dX0_liftPieces_13 ?_
      refine s_aload_n hC dX0_liftPieces_16 rfl 0 rfl ?_
      refine s_get (b := b) hC hK (hJ.1 σ5) (by decide) o_Book rfl q_w_X0 10 (by decide) q_f_X0_49 rfl dX0_liftPieces_17 ?_
      refine s_iload_n hC dX0_liftPieces_20 rfl 1 rfl ?_
      refine s_aaloadG (b := b) hC hK (hJ.1 σ5) (by decide) q_Book_12 dX0_liftPieces_21 (fun q7a q7b => ?_)
      refine s_iload_n hC dX0_liftPieces_22 rfl 2 rfl ?_
      refine s_iaload hC hK (hJ.1 σ5) hσ5 (by omega) (a_Book_13 (by omega)) dX0_liftPieces_23 (fun v8 hv8 => ?_)
      refine s_callV_U (As := [vI v8]) (rest := []) (a := b + 1) hC hKA 1 (m_X3_vacate hJ hσ5 hv8) (fun _ h => h) rfl (cb_of hC 1 q_c_yX3_vacate q_i_X3 q_m_X0_99 rfl rfl dd_yX3_vacate ⟨Nat.le_of_ble_eq_true rfl, Nat.le_of_ble_eq_true rfl⟩) q_i_yX3_vacate q_x_yX3_vacate (s_recv hK (hJ.1 σ5) (by decide) o_Pages rfl) rfl (Nat.le_of_ble_eq_true rfl) dX0_liftPieces_24 ⟨Nat.zero_le _, Nat.zero_le _⟩ (fun σ9 hσ9 => ?_)
      refine s_iincK hC dX0_liftPieces_27 2 rfl (by decide) (fun v10 => [(2, vI v10), (0, .ref (b + 0)), (1, vI a1)]) (fun _ => rfl) (fun v10 hv10 => ?_)
      refine s_goto (tgt := 2) hC dX0_liftPieces_30 (by decide) ?_
      refine s_sub (L' := [(0, .ref (b + 0)), (1, vI a1), (2, vI v10)]) [1, 2, 0] rfl ?_
      exact ih2 v10 σ9 hv10 hσ9
set_option maxHeartbeats 4000000 in
set_option maxRecDepth 100000 in
theorem m_X0_layHeadAgain {l : Launch} {G : Gt} {b : Nat} {σ : Blk} {J : Blk → Heap → Prop} (hJ : Wd G (layBook G b) 74 b J) (hσ : Rg σ) {a1 : Int} (h1 : inR a1) : MetS l yX0_layHeadAgain cX0_layHeadAgain 6 (some .int) { frames := 3, cells := 0, slots := 0, locals := 63 } G [.ref (b + 0), vI a1] (J σ) (poW J) (Ab b 74) 0 0 (f_X0_layHeadAgain σ a1) := by
  refine met_of (by decide) (Nat.le_of_ble_eq_true rfl) ?_
  intro p e s m below meth c hC hKA hr _
  have hK := hKA.1
  unfold f_X0_layHeadAgain
  refine s_sub (L' := [(0, .ref (b + 0)), (1, vI a1)]) [0, 1] rfl ?_
  refine s_aload_n hC dX0_layHeadAgain_0 rfl 0 rfl ?_
  refine s_get (b := b) hC hK (hJ.1 σ) (by decide) o_Book rfl q_w_X0 5 (by decide) q_f_X0_32 rfl dX0_layHeadAgain_1 ?_
  refine s_iload_n hC dX0_layHeadAgain_4 rfl 1 rfl ?_
  refine s_iaload hC hK (hJ.1 σ) hσ (by decide) a_Book_7 dX0_layHeadAgain_5 (fun v1 hv1 => ?_)
  refine s_istore_n (L' := [(2, vI v1), (0, .ref (b + 0)), (1, vI a1)]) hC dX0_layHeadAgain_6 rfl (by decide) rfl ?_
  refine s_aload_n hC dX0_layHeadAgain_7 rfl 1 rfl ?_
  refine s_get (b := b) hC hK (hJ.1 σ) (by decide) o_Book rfl q_w_X0 7 (by decide) q_f_X0_38 rfl dX0_layHeadAgain_8 ?_
  refine s_iload_n hC dX0_layHeadAgain_11 rfl 2 rfl ?_
  refine s_iaload hC hK (hJ.1 σ) hσ (by decide) a_Book_9 dX0_layHeadAgain_12 (fun v2 hv2 => ?_)
  refine s_istore_n (L' := [(3, vI v2), (2, vI v1), (0, .ref (b + 0)), (1, vI a1)]) hC dX0_layHeadAgain_13 rfl (by decide) rfl ?_
  refine s_aload_n hC dX0_layHeadAgain_14 rfl 2 rfl ?_
  refine s_get (b := b) hC hK (hJ.1 σ) (by decide) o_Book rfl q_w_X0 8 (by decide) q_f_X0_41 rfl dX0_layHeadAgain_15 ?_
  refine s_iload_n hC dX0_layHeadAgain_18 rfl 3 rfl ?_
  refine s_iaload hC hK (hJ.1 σ) hσ (by decide) a_Book_10 dX0_layHeadAgain_19 (fun v3 hv3 => ?_)
  refine s_istore (L' := [(4, vI v3), (3, vI v2), (2, vI v1), (0, .ref (b + 0)), (1, vI a1)]) hC dX0_layHeadAgain_20 (by decide) rfl ?_
  refine s_aload_n hC dX0_layHeadAgain_22 rfl 3 rfl ?_
  refine s_iload_n hC dX0_layHeadAgain_23 rfl 4 rfl ?_
  refine s_callV_P (As := [vI a1]) (rest := []) (a := b + 0) hC hKA 1 (m_X0_headCells (hJ.1 σ) hσ h1) rfl (cb_of hC 1 q_c_yX0_headCells q_i_X0 q_m_X0_85 rfl rfl dd_yX0_headCells ⟨Nat.le_of_ble_eq_true rfl, Nat.le_of_ble_eq_true rfl⟩) q_i_yX0_headCells q_x_yX0_headCells (s_recv hK (hJ.1 σ) (by decide) o_Book rfl) rfl (Nat.le_of_ble_eq_true rfl) dX0_layHeadAgain_24 ⟨Nat.zero_le _, Nat.zero_le _⟩ (fun r4 hr4 => ?_)
  refine s_istore (L' := [(5, vI r4), (4, vI v3), (3, vI v2), (2, vI v1), (0, .ref (b + 0)), (1, vI a1)]) hC dX0_layHeadAgain_27 (by decide) rfl ?_
  refine s_aload_n hC dX0_layHeadAgain_29 rfl 4 rfl ?_
  refine s_get (b := b) hC hK (hJ.1 σ) (by decide) o_Book rfl q_w_X0 3 (by decide) q_f_X0_24 rfl dX0_layHeadAgain_30 ?_
  refine s_iload hC dX0_layHeadAgain_33 1 rfl ?_
  refine s_bipush hC dX0_layHeadAgain_35 (by decide) ?_
  refine s_idiv hC dX0_layHeadAgain_37 hv3 (inR_c _ rfl) (by decide) (fun v5 hv5 => ?_)
  refine s_iload hC dX0_layHeadAgain_38 0 rfl ?_
  refine s_callV_P (As := [vI v5, vI r4]) (rest := []) (a := b + 1) hC hKA 2 (m_X3_hasRoom (hJ.1 σ) hσ hv5 hr4) rfl (cb_of hC 2 q_c_yX3_hasRoom q_i_X3 q_m_X0_105 rfl rfl dd_yX3_hasRoom ⟨Nat.le_of_ble_eq_true rfl, Nat.le_of_ble_eq_true rfl⟩) q_i_yX3_hasRoom q_x_yX3_hasRoom (s_recv hK (hJ.1 σ) (by decide) o_Pages rfl) rfl (Nat.le_of_ble_eq_true rfl) dX0_layHeadAgain_40 ⟨Nat.zero_le _, Nat.zero_le _⟩ (fun r6 hr6 => ?_)
  refine s_if_eq (tgt := 62) hC dX0_layHeadAgain_43 (by decide) hr6 ?_ ?_
  · refine s_sub (L' := [(0, .ref (b + 0)), (2, vI v1), (3, vI v2), (4, vI v3), (5, vI r4)]) [4, 3, 2, 1, 0] rfl ?_
    refine s_iload hC dX0_layHeadAgain_62 3 rfl ?_
    refine s_iload_n hC dX0_layHeadAgain_64 rfl 2 rfl ?_
    refine s_icmp_ne (tgt := 91) hC dX0_layHeadAgain_65 (by decide) hv3 hv2 ?_ ?_
    · refine s_sub (L' := [(0, .ref (b + 0)), (2, vI v1), (3, vI v2), (5, vI r4)]) [0, 1, 2, 4] rfl ?_
      refine s_aload_n hC dX0_layHeadAgain_91 rfl 0 rfl ?_
      refine s_get (b := b) hC hK (hJ.1 σ) (by decide) o_Book rfl q_w_X0 3 (by decide) q_f_X0_24 rfl dX0_layHeadAgain_92 ?_
      refine s_iload_n hC dX0_layHeadAgain_95 rfl 2 rfl ?_
      refine s_bipush hC dX0_layHeadAgain_96 (by decide) ?_
      refine s_idiv hC dX0_layHeadAgain_98 hv2 (inR_c _ rfl) (by decide) (fun v7 hv7 => ?_)
      refine s_iload hC dX0_layHeadAgain_99 3 rfl ?_
      refine s_iconst hC dX0_layHeadAgain_101 ?_
      refine s_isub hC dX0_layHeadAgain_102 ?_
      refine s_ck0 (fun v8 hv8 => ?_)
      refine s_callV_P (As := [vI v7, vI v8]) (rest := []) (a := b + 1) hC hKA 2 (m_X3_hasRoom (hJ.1 σ) hσ hv7 hv8) rfl (cb_of hC 2 q_c_yX3_hasRoom q_i_X3 q_m_X0_105 rfl rfl dd_yX3_hasRoom ⟨Nat.le_of_ble_eq_true rfl, Nat.le_of_ble_eq_true rfl⟩) q_i_yX3_hasRoom q_x_yX3_hasRoom (s_recv hK (hJ.1 σ) (by decide) o_Pages rfl) rfl (Nat.le_of_ble_eq_true rfl) dX0_layHeadAgain_103 ⟨Nat.zero_le _, Nat.zero_le _⟩ (fun r9 hr9 => ?_)
      refine s_if_eq (tgt := 131) hC dX0_layHeadAgain_106 (by decide) hr9 ?_ ?_
      · refine s_sub (L' := [(0, .ref (b + 0)), (2, vI v1), (5, vI r4)]) [0, 1, 3] rfl ?_
        refine s_aload_n hC dX0_layHeadAgain_131 rfl 0 rfl ?_
        refine s_get (b := b) hC hK (hJ.1 σ) (by decide) o_Book rfl q_w_X0 3 (by decide) q_f_X0_24 rfl dX0_layHeadAgain_132 ?_
        refine s_iconst hC dX0_layHeadAgain_135 ?_
        refine s_iload_n hC dX0_layHeadAgain_136 rfl 1 rfl ?_
        refine s_iload hC dX0_layHeadAgain_137 2 rfl ?_
        refine s_callV_W (As := [vI 1, vI v1, vI r4]) (rest := []) (a := b + 1) hC hKA 3 (m_X3_place hJ hσ (inR_c _ rfl) hv1 hr4) (fun _ h => h) rfl (cb_of hC 3 q_c_yX3_place q_i_X3 q_m_X0_88 rfl rfl dd_yX3_place ⟨Nat.le_of_ble_eq_true rfl, Nat.le_of_ble_eq_true rfl⟩) q_i_yX3_place q_x_yX3_place (s_recv hK (hJ.1 σ) (by decide) o_Pages rfl) rfl (Nat.le_of_ble_eq_true rfl) dX0_layHeadAgain_139 ⟨Nat.zero_le _, Nat.zero_le _⟩ (fun r10 σ11 hr10 hσ11 => ?_)
        exact s_iret hC hr dX0_layHeadAgain_142 (fun H hH => ⟨rfl, hr10, hσ11, hH⟩)
      · refine s_aload_n hC dX0_layHeadAgain_109 rfl 0 rfl ?_
        refine s_get (b := b) hC hK (hJ.1 σ) (by decide) o_Book rfl q_w_X0 3 (by decide) q_f_X0_24 rfl dX0_layHeadAgain_110 ?_
        refine s_iload_n hC dX0_layHeadAgain_113 rfl 2 rfl ?_
        refine s_callV_U (As := [vI v2]) (rest := []) (a := b + 1) hC hKA 1 (m_X3_vacate hJ hσ hv2) (fun _ h => h) rfl (cb_of hC 1 q_c_yX3_vacate q_i_X3 q_m_X0_99 rfl rfl dd_yX3_vacate ⟨Nat.le_of_ble_eq_true rfl, Nat.le_of_ble_eq_true rfl⟩) q_i_yX3_vacate q_x_yX3_vacate (s_recv hK (hJ.1 σ) (by decide) o_Pages rfl) rfl (Nat.le_of_ble_eq_true rfl) dX0_layHeadAgain_114 ⟨Nat.zero_le _, Nat.zero_le _⟩ (fun σ12 hσ12 => ?_)
        refine s_aload_n hC dX0_layHeadAgain_117 rfl 0 rfl ?_
        refine s_get (b := b) hC hK (hJ.1 σ12) (by decide) o_Book rfl q_w_X0 3 (by decide) q_f_X0_24 rfl dX0_layHeadAgain_118 ?_
        refine s_iload_n hC dX0_layHeadAgain_121 rfl 2 rfl ?_
        refine s_iconst hC dX0_layHeadAgain_122 ?_
        refine s_iload_n hC dX0_layHeadAgain_123 rfl 1 rfl ?_
        refine s_iload hC dX0_layHeadAgain_124 3 rfl ?_
        refine s_callV_U (As := [vI v2, vI 1, vI v1, vI r4]) (rest := []) (a := b + 1) hC hKA 4 (m_X3_occupy hJ hσ12 hv2 (inR_c _ rfl) hv1 hr4) (fun _ h => h) rfl (cb_of hC 4 q_c_yX3_occupy q_i_X3 q_m_X0_109 rfl rfl dd_yX3_occupy ⟨Nat.le_of_ble_eq_true rfl, Nat.le_of_ble_eq_true rfl⟩) q_i_yX3_occupy q_x_yX3_occupy (s_recv hK (hJ.1 σ12) (by decide) o_Pages rfl) rfl (Nat.le_of_ble_eq_true rfl) dX0_layHeadAgain_126 ⟨Nat.zero_le _, Nat.zero_le _⟩ (fun σ13 hσ13 => ?_)
        refine s_iload_n hC dX0_layHeadAgain_129 rfl 2 rfl ?_
        exact s_iret hC hr dX0_layHeadAgain_130 (fun H hH => ⟨rfl, hv2, hσ13, hH⟩)
    · refine s_sub (L' := [(0, .ref (b + 0)), (2, vI v1), (3, vI v2), (5, vI r4)]) [0, 1, 2, 4] rfl ?_
      refine s_aload_n hC dX0_layHeadAgain_68 rfl 0 rfl ?_
      refine s_get (b := b) hC hK (hJ.1 σ) (by decide) o_Book rfl q_w_X0 3 (by decide) q_f_X0_24 rfl dX0_layHeadAgain_69 ?_
      refine s_iload_n hC dX0_layHeadAgain_72 rfl 2 rfl ?_
      refine s_iconst hC dX0_layHeadAgain_73 ?_
      refine s_iload_n hC dX0_layHeadAgain_74 rfl 1 rfl ?_
      refine s_iconst hC dX0_layHeadAgain_75 ?_
      refine s_callV_U (As := [vI v2, vI 3, vI v1, vI 1]) (rest := []) (a := b + 1) hC hKA 4 (m_X3_occupy hJ hσ hv2 (inR_c _ rfl) hv1 (inR_c _ rfl)) (fun _ h => h) rfl (cb_of hC 4 q_c_yX3_occupy q_i_X3 q_m_X0_109 rfl rfl dd_yX3_occupy ⟨Nat.le_of_ble_eq_true rfl, Nat.le_of_ble_eq_true rfl⟩) q_i_yX3_occupy q_x_yX3_occupy (s_recv hK (hJ.1 σ) (by decide) o_Pages rfl) rfl (Nat.le_of_ble_eq_true rfl) dX0_layHeadAgain_76 ⟨Nat.zero_le _, Nat.zero_le _⟩ (fun σ14 hσ14 => ?_)
      refine s_aload_n hC dX0_layHeadAgain_79 rfl 0 rfl ?_
      refine s_get (b := b) hC hK (hJ.1 σ14) (by decide) o_Book rfl q_w_X0 3 (by decide) q_f_X0_24 rfl dX0_layHeadAgain_80 ?_
      refine s_iconst hC dX0_layHeadAgain_83 ?_
      refine s_iload_n hC dX0_layHeadAgain_84 rfl 1 rfl ?_
      refine s_iload hC dX0_layHeadAgain_85 3 rfl ?_
      refine s_callV_W (As := [vI 1, vI v1, vI r4]) (rest := []) (a := b + 1) hC hKA 3 (m_X3_place hJ hσ14 (inR_c _ rfl) hv1 hr4) (fun _ h => h) rfl (cb_of hC 3 q_c_yX3_place q_i_X3 q_m_X0_88 rfl rfl dd_yX3_place ⟨Nat.le_of_ble_eq_true rfl, Nat.le_of_ble_eq_true rfl⟩) q_i_yX3_place q_x_yX3_place (s_recv hK (hJ.1 σ14) (by decide) o_Pages rfl) rfl (Nat.le_of_ble_eq_true rfl) dX0_layHeadAgain_87 ⟨Nat.zero_le _, Nat.zero_le _⟩ (fun r15 σ16 hr15 hσ16 => ?_)
      exact s_iret hC hr dX0_layHeadAgain_90 (fun H hH => ⟨rfl, hr15, hσ16, hH⟩)
  · refine s_sub (L' := [(0, .ref (b + 0)), (2, vI v1), (4, vI v3), (5, vI r4)]) [4, 3, 1, 0] rfl ?_
    refine s_aload_n hC dX0_layHeadAgain_46 rfl 0 rfl ?_
    refine s_get (b := b) hC hK (hJ.1 σ) (by decide) o_Book rfl q_w_X0 3 (by decide) q_f_X0_24 rfl dX0_layHeadAgain_47 ?_
    refine s_iload hC dX0_layHeadAgain_50 2 rfl ?_
    refine s_iconst hC dX0_layHeadAgain_52 ?_
    refine s_iload_n hC dX0_layHeadAgain_53 rfl 1 rfl ?_
    refine s_iload hC dX0_layHeadAgain_54 3 rfl ?_
    refine s_callV_U (As := [vI v3, vI 1, vI v1, vI r4]) (rest := []) (a := b + 1) hC hKA 4 (m_X3_occupy hJ hσ hv3 (inR_c _ rfl) hv1 hr4) (fun _ h => h) rfl (cb_of hC 4 q_c_yX3_occupy q_i_X3 q_m_X0_109 rfl rfl dd_yX3_occupy ⟨Nat.le_of_ble_eq_true rfl, Nat.le_of_ble_eq_true rfl⟩) q_i_yX3_occupy q_x_yX3_occupy (s_recv hK (hJ.1 σ) (by decide) o_Pages rfl) rfl (Nat.le_of_ble_eq_true rfl) dX0_layHeadAgain_56 ⟨Nat.zero_le _, Nat.zero_le _⟩ (fun σ17 hσ17 => ?_)
    refine s_iload hC dX0_layHeadAgain_59 2 rfl ?_
    exact s_iret hC hr dX0_layHeadAgain_61 (fun H hH => ⟨rfl, hv3, hσ17, hH⟩)
set_option maxHeartbeats 4000000 in
set_option maxRecDepth 100000 in
theorem m_X0_layAgain {l : Launch} {G : Gt} {b : Nat} {σ : Blk} {J : Blk → Heap → Prop} (hJ : Wd G (layBook G b) 74 b J) (hσ : Rg σ) {a1 : Int} (h1 : inR a1) : MetS l yX0_layAgain cX0_layAgain 2 (some .boolean) { frames := 4, cells := 0, slots := 0, locals := 88 } G [.ref (b + 0), vI a1] (J σ) (poW J) (Ab b 74) 0 0 (f_X0_layAgain σ a1) := by
  refine met_of (by decide) (Nat.le_of_ble_eq_true rfl) ?_
  intro p e s m below meth c hC hKA hr _
  have hK := hKA.1
  unfold f_X0_layAgain
  refine s_sub (L' := [(0, .ref (b + 0)), (1, vI a1)]) [0, 1] rfl ?_
  refine s_aload_n hC dX0_layAgain_0 rfl 0 rfl ?_
  refine s_iload_n hC dX0_layAgain_1 rfl 1 rfl ?_
  refine s_callV_U (As := [vI a1]) (rest := []) (a := b + 0) hC hKA 1 (m_X0_liftPieces hJ hσ h1) (fun _ h => h) rfl (cb_of hC 1 q_c_yX0_liftPieces q_i_X0 q_m_X0_95 rfl rfl dd_yX0_liftPieces ⟨Nat.le_of_ble_eq_true rfl, Nat.le_of_ble_eq_true rfl⟩) q_i_yX0_liftPieces q_x_yX0_liftPieces (s_recv hK (hJ.1 σ) (by decide) o_Book rfl) rfl (Nat.le_of_ble_eq_true rfl) dX0_layAgain_2 ⟨Nat.zero_le _, Nat.zero_le _⟩ (fun σ1 hσ1 => ?_)
  refine s_aload_n hC dX0_layAgain_5 rfl 0 rfl ?_
  refine s_get (b := b) hC hK (hJ.1 σ1) (by decide) o_Book rfl q_w_X0 3 (by decide) q_f_X0_24 rfl dX0_layAgain_6 ?_
  refine s_aload_n hC dX0_layAgain_9 rfl 0 rfl ?_
  refine s_get (b := b) hC hK (hJ.1 σ1) (by decide) o_Book rfl q_w_X0 8 (by decide) q_f_X0_41 rfl dX0_layAgain_10 ?_
  refine s_iload_n hC dX0_layAgain_13 rfl 1 rfl ?_
  refine s_iaload hC hK (hJ.1 σ1) hσ1 (by decide) a_Book_10 dX0_layAgain_14 (fun v2 hv2 => ?_)
  refine s_callV_U (As := [vI v2]) (rest := []) (a := b + 1) hC hKA 1 (m_X3_vacate hJ hσ1 hv2) (fun _ h => h) rfl (cb_of hC 1 q_c_yX3_vacate q_i_X3 q_m_X0_99 rfl rfl dd_yX3_vacate ⟨Nat.le_of_ble_eq_true rfl, Nat.le_of_ble_eq_true rfl⟩) q_i_yX3_vacate q_x_yX3_vacate (s_recv hK (hJ.1 σ1) (by decide) o_Pages rfl) rfl (Nat.le_of_ble_eq_true rfl) dX0_layAgain_15 ⟨Nat.zero_le _, Nat.zero_le _⟩ (fun σ3 hσ3 => ?_)
  refine s_aload_n hC dX0_layAgain_18 rfl 0 rfl ?_
  refine s_get (b := b) hC hK (hJ.1 σ3) (by decide) o_Book rfl q_w_X0 8 (by decide) q_f_X0_41 rfl dX0_layAgain_19 ?_
  refine s_iload_n hC dX0_layAgain_22 rfl 1 rfl ?_
  refine s_aload_n hC dX0_layAgain_23 rfl 0 rfl ?_
  refine s_iload_n hC dX0_layAgain_24 rfl 1 rfl ?_
  refine s_callV_W (As := [vI a1]) (rest := [vI a1, .ref (b + 10)]) (a := b + 0) hC hKA 1 (m_X0_layHeadAgain hJ hσ3 h1) (fun _ h => h) rfl (cb_of hC 1 q_c_yX0_layHeadAgain q_i_X0 q_m_X0_102 rfl rfl dd_yX0_layHeadAgain ⟨Nat.le_of_ble_eq_true rfl, Nat.le_of_ble_eq_true rfl⟩) q_i_yX0_layHeadAgain q_x_yX0_layHeadAgain (s_recv hK (hJ.1 σ3) (by decide) o_Book rfl) rfl (Nat.le_of_ble_eq_true rfl) dX0_layAgain_25 ⟨Nat.zero_le _, Nat.zero_le _⟩ (fun r4 σ5 hr4 hσ5 => ?_)
  refine s_iastore hC hK hJ (fun _ h => h) hσ5 hr4 (by decide) a_Book_10 dX0_layAgain_28 (fun σ6 hσ6 => ?_)
  refine s_aload_n hC dX0_layAgain_29 rfl 0 rfl ?_
  refine s_get (b := b) hC hK (hJ.1 σ6) (by decide) o_Book rfl q_w_X0 8 (by decide) q_f_X0_41 rfl dX0_layAgain_30 ?_
  refine s_iload_n hC dX0_layAgain_33 rfl 1 rfl ?_
  refine s_iaload hC hK (hJ.1 σ6) hσ6 (by decide) a_Book_10 dX0_layAgain_34 (fun v7 hv7 => ?_)
  refine s_iconst hC dX0_layAgain_35 ?_
  refine s_icmp_eq (tgt := 51) hC dX0_layAgain_36 (by decide) hv7 (inR_c _ rfl) ?_ ?_
  · refine s_sub (L' := []) [] rfl ?_
    refine s_iconst hC dX0_layAgain_51 ?_
    exact s_zret hC hr (Or.inl rfl) dX0_layAgain_52 (fun H hH => ⟨rfl, (inR_c _ rfl), hσ6, hH⟩)
  · refine s_aload_n hC dX0_layAgain_39 rfl 0 rfl ?_
    refine s_iload_n hC dX0_layAgain_40 rfl 1 rfl ?_
    refine s_callV_W (As := [vI a1]) (rest := []) (a := b + 0) hC hKA 1 (m_X0_layPieces hJ hσ6 h1) (fun _ h => h) rfl (cb_of hC 1 q_c_yX0_layPieces q_i_X0 q_m_X0_92 rfl rfl dd_yX0_layPieces ⟨Nat.le_of_ble_eq_true rfl, Nat.le_of_ble_eq_true rfl⟩) q_i_yX0_layPieces q_x_yX0_layPieces (s_recv hK (hJ.1 σ6) (by decide) o_Book rfl) rfl (Nat.le_of_ble_eq_true rfl) dX0_layAgain_41 ⟨Nat.zero_le _, Nat.zero_le _⟩ (fun r8 σ9 hr8 hσ9 => ?_)
    refine s_if_eq (tgt := 51) hC dX0_layAgain_44 (by decide) hr8 ?_ ?_
    · refine s_sub (L' := []) [] rfl ?_
      refine s_iconst hC dX0_layAgain_51 ?_
      exact s_zret hC hr (Or.inl rfl) dX0_layAgain_52 (fun H hH => ⟨rfl, (inR_c _ rfl), hσ9, hH⟩)
    · refine s_sub (L' := []) [] rfl ?_
      refine s_iconst hC dX0_layAgain_47 ?_
      refine s_goto (tgt := 52) hC dX0_layAgain_48 (by decide) ?_
      exact s_zret hC hr (Or.inr rfl) dX0_layAgain_52 (fun H hH => ⟨rfl, (inR_c _ rfl), hσ9, hH⟩)
set_option maxHeartbeats 4000000 in
set_option maxRecDepth 100000 in
theorem m_X0_layRow {l : Launch} {G : Gt} {b : Nat} {σ : Blk} {J : Blk → Heap → Prop} (hJ : Wd G (layBook G b) 74 b J) (hσ : Rg σ) {a1 : Int} (h1 : inR a1) {a2 : Int} (h2 : inR a2) : MetS l yX0_layRow cX0_layRow 4 (some .int) { frames := 5, cells := 0, slots := 0, locals := 109 } G [.ref (b + 0), vI a1, vI a2] (J σ) (poW J) (Ab b 74) 0 0 (f_X0_layRow σ a1 a2) := by
  refine met_of (by decide) (Nat.le_of_ble_eq_true rfl) ?_
  intro p e s m below meth c hC hKA hr _
  have hK := hKA.1
  unfold f_X0_layRow
  refine s_sub (L' := [(0, .ref (b + 0)), (1, vI a1), (2, vI a2)]) [0, 1, 2] rfl ?_
  refine s_aload_n hC dX0_layRow_0 rfl 0 rfl ?_
  refine s_iload_n hC dX0_layRow_1 rfl 1 rfl ?_
  refine s_callV_P (As := [vI a1]) (rest := []) (a := b + 0) hC hKA 1 (m_X0_rowOf (hJ.1 σ) hσ h1) rfl (cb_of hC 1 q_c_yX0_rowOf q_i_X0 q_m_X0_71 rfl rfl dd_yX0_rowOf ⟨Nat.le_of_ble_eq_true rfl, Nat.le_of_ble_eq_true rfl⟩) q_i_yX0_rowOf q_x_yX0_rowOf (s_recv hK (hJ.1 σ) (by decide) o_Book rfl) rfl (Nat.le_of_ble_eq_true rfl) dX0_layRow_2 ⟨Nat.zero_le _, Nat.zero_le _⟩ (fun r1 hr1 => ?_)
  refine s_istore_n (L' := [(3, vI r1), (0, .ref (b + 0)), (1, vI a1), (2, vI a2)]) hC dX0_layRow_5 rfl (by decide) rfl ?_
  refine s_iload_n hC dX0_layRow_6 rfl 0 rfl ?_
  refine s_iconst hC dX0_layRow_7 ?_
  refine s_icmp_ne (tgt := 45) hC dX0_layRow_8 (by decide) hr1 (inR_c _ rfl) ?_ ?_
  · refine s_sub (L' := [(0, .ref (b + 0)), (2, vI a2), (3, vI r1)]) [1, 3, 0] rfl ?_
    refine s_aload_n hC dX0_layRow_45 rfl 0 rfl ?_
    refine s_get (b := b) hC hK (hJ.1 σ) (by decide) o_Book rfl q_w_X0 6 (by decide) q_f_X0_35 rfl dX0_layRow_46 ?_
    refine s_iload_n hC dX0_layRow_49 rfl 2 rfl ?_
    refine s_iload_n hC dX0_layRow_50 rfl 1 rfl ?_
    refine s_iastore hC hK hJ (fun _ h => h) hσ h2 (by decide) a_Book_8 dX0_layRow_51 (fun σ2 hσ2 => ?_)
    refine s_aload_n hC dX0_layRow_52 rfl 0 rfl ?_
    refine s_iload_n hC dX0_layRow_53 rfl 2 rfl ?_
    refine s_callV_W (As := [vI r1]) (rest := []) (a := b + 0) hC hKA 1 (m_X0_layAgain hJ hσ2 hr1) (fun _ h => h) rfl (cb_of hC 1 q_c_yX0_layAgain q_i_X0 q_m_X0_82 rfl rfl dd_yX0_layAgain ⟨Nat.le_of_ble_eq_true rfl, Nat.le_of_ble_eq_true rfl⟩) q_i_yX0_layAgain q_x_yX0_layAgain (s_recv hK (hJ.1 σ2) (by decide) o_Book rfl) rfl (Nat.le_of_ble_eq_true rfl) dX0_layRow_54 ⟨Nat.zero_le _, Nat.zero_le _⟩ (fun r3 σ4 hr3 hσ4 => ?_)
    refine s_if_eq (tgt := 64) hC dX0_layRow_57 (by decide) hr3 ?_ ?_
    · refine s_sub (L' := []) [] rfl ?_
      refine s_iconst hC dX0_layRow_64 ?_
      exact s_iret hC hr dX0_layRow_65 (fun H hH => ⟨rfl, (inR_c _ rfl), hσ4, hH⟩)
    · refine s_sub (L' := [(3, vI r1)]) [2] rfl ?_
      refine s_iload_n hC dX0_layRow_60 rfl 0 rfl ?_
      refine s_goto (tgt := 65) hC dX0_layRow_61 (by decide) ?_
      refine s_sub (L' := []) [] rfl ?_
      exact s_iret hC hr dX0_layRow_65 (fun H hH => ⟨rfl, hr1, hσ4, hH⟩)
  · refine s_sub (L' := [(0, .ref (b + 0)), (1, vI a1), (2, vI a2)]) [1, 2, 3] rfl ?_
    refine s_aload_n hC dX0_layRow_11 rfl 0 rfl ?_
    refine s_iload_n hC dX0_layRow_12 rfl 1 rfl ?_
    refine s_callV_W (As := [vI a1]) (rest := []) (a := b + 0) hC hKA 1 (m_X0_addRow hJ hσ h1) (fun _ h => h) rfl (cb_of hC 1 q_c_yX0_addRow q_i_X0 q_m_X0_75 rfl rfl dd_yX0_addRow ⟨Nat.le_of_ble_eq_true rfl, Nat.le_of_ble_eq_true rfl⟩) q_i_yX0_addRow q_x_yX0_addRow (s_recv hK (hJ.1 σ) (by decide) o_Book rfl) rfl (Nat.le_of_ble_eq_true rfl) dX0_layRow_13 ⟨Nat.zero_le _, Nat.zero_le _⟩ (fun r5 σ6 hr5 hσ6 => ?_)
    refine s_istore_n (L' := [(3, vI r5), (0, .ref (b + 0)), (1, vI a1), (2, vI a2)]) hC dX0_layRow_16 rfl (by decide) rfl ?_
    refine s_iload_n hC dX0_layRow_17 rfl 0 rfl ?_
    refine s_iconst hC dX0_layRow_18 ?_
    refine s_icmp_ne (tgt := 24) hC dX0_layRow_19 (by decide) hr5 (inR_c _ rfl) ?_ ?_
    · refine s_sub (L' := [(0, .ref (b + 0)), (2, vI a2), (3, vI r5)]) [1, 3, 0] rfl ?_
      refine s_aload_n hC dX0_layRow_24 rfl 0 rfl ?_
      refine s_get (b := b) hC hK (hJ.1 σ6) (by decide) o_Book rfl q_w_X0 6 (by decide) q_f_X0_35 rfl dX0_layRow_25 ?_
      refine s_iload_n hC dX0_layRow_28 rfl 2 rfl ?_
      refine s_iload_n hC dX0_layRow_29 rfl 1 rfl ?_
      refine s_iastore hC hK hJ (fun _ h => h) hσ6 h2 (by decide) a_Book_8 dX0_layRow_30 (fun σ7 hσ7 => ?_)
      refine s_aload_n hC dX0_layRow_31 rfl 0 rfl ?_
      refine s_iload_n hC dX0_layRow_32 rfl 2 rfl ?_
      refine s_callV_W (As := [vI r5]) (rest := []) (a := b + 0) hC hKA 1 (m_X0_layNew hJ hσ7 hr5) (fun _ h => h) rfl (cb_of hC 1 q_c_yX0_layNew q_i_X0 q_m_X0_78 rfl rfl dd_yX0_layNew ⟨Nat.le_of_ble_eq_true rfl, Nat.le_of_ble_eq_true rfl⟩) q_i_yX0_layNew q_x_yX0_layNew (s_recv hK (hJ.1 σ7) (by decide) o_Book rfl) rfl (Nat.le_of_ble_eq_true rfl) dX0_layRow_33 ⟨Nat.zero_le _, Nat.zero_le _⟩ (fun r8 σ9 hr8 hσ9 => ?_)
      refine s_if_eq (tgt := 43) hC dX0_layRow_36 (by decide) hr8 ?_ ?_
      · refine s_sub (L' := []) [] rfl ?_
        refine s_iconst hC dX0_layRow_43 ?_
        exact s_iret hC hr dX0_layRow_44 (fun H hH => ⟨rfl, (inR_c _ rfl), hσ9, hH⟩)
      · refine s_sub (L' := [(3, vI r5)]) [2] rfl ?_
        refine s_iload_n hC dX0_layRow_39 rfl 0 rfl ?_
        refine s_goto (tgt := 44) hC dX0_layRow_40 (by decide) ?_
        refine s_sub (L' := []) [] rfl ?_
        exact s_iret hC hr dX0_layRow_44 (fun H hH => ⟨rfl, hr5, hσ9, hH⟩)
    · refine s_sub (L' := []) [] rfl ?_
      refine s_iconst hC dX0_layRow_22 ?_
      exact s_iret hC hr dX0_layRow_23 (fun H hH => ⟨rfl, (inR_c _ rfl), hσ6, hH⟩)
set_option maxHeartbeats 4000000 in
set_option maxRecDepth 100000 in
theorem m_X0_hasMoved {l : Launch} {G : Gt} {b : Nat} {σ : Blk} {I : Heap → Prop} (hI : ∀ H, I H → Bk G (layBook G b) 74 b σ H) (hσ : Rg σ) {a1 : Int} (h1 : inR a1) : MetS l yX0_hasMoved cX0_hasMoved 2 (some .boolean) { frames := 0, cells := 0, slots := 0, locals := 0 } G [.ref (b + 0), vI a1] I (poP I) (fun _ => False) 0 0 (f_X0_hasMoved σ a1) := by
  refine met_of (by decide) (Nat.le_of_ble_eq_true rfl) ?_
  intro p e s m below meth c hC hKA hr _
  have hK := hKA.1
  unfold f_X0_hasMoved
  refine s_sub (L' := [(0, .ref (b + 0)), (1, vI a1)]) [0, 1] rfl ?_
  refine s_aload_n hC dX0_hasMoved_0 rfl 0 rfl ?_
  refine s_get (b := b) hC hK hI (by decide) o_Book rfl q_w_X0 8 (by decide) q_f_X0_41 rfl dX0_hasMoved_1 ?_
  refine s_iload_n hC dX0_hasMoved_4 rfl 1 rfl ?_
  refine s_iaload hC hK hI hσ (by decide) a_Book_10 dX0_hasMoved_5 (fun v1 hv1 => ?_)
  refine s_aload_n hC dX0_hasMoved_6 rfl 0 rfl ?_
  refine s_get (b := b) hC hK hI (by decide) o_Book rfl q_w_X0 7 (by decide) q_f_X0_38 rfl dX0_hasMoved_7 ?_
  refine s_iload_n hC dX0_hasMoved_10 rfl 1 rfl ?_
  refine s_iaload hC hK hI hσ (by decide) a_Book_9 dX0_hasMoved_11 (fun v2 hv2 => ?_)
  refine s_icmp_eq (tgt := 19) hC dX0_hasMoved_12 (by decide) hv1 hv2 ?_ ?_
  · refine s_sub (L' := []) [] rfl ?_
    refine s_iconst hC dX0_hasMoved_19 ?_
    exact s_zret hC hr (Or.inl rfl) dX0_hasMoved_20 (fun H hH => ⟨rfl, (inR_c _ rfl), hH⟩)
  · refine s_sub (L' := []) [] rfl ?_
    refine s_iconst hC dX0_hasMoved_15 ?_
    refine s_goto (tgt := 20) hC dX0_hasMoved_16 (by decide) ?_
    exact s_zret hC hr (Or.inr rfl) dX0_hasMoved_20 (fun H hH => ⟨rfl, (inR_c _ rfl), hH⟩)
set_option maxHeartbeats 4000000 in
set_option maxRecDepth 100000 in
theorem m_X0_removeRow {l : Launch} {G : Gt} {b : Nat} {σ : Blk} {J : Blk → Heap → Prop} (hJ : Wd G (layBook G b) 74 b J) (hσ : Rg σ) {a1 : Int} (h1 : inR a1) : MetS l yX0_removeRow cX0_removeRow 2 none { frames := 2, cells := 0, slots := 0, locals := 43 } G [.ref (b + 0), vI a1] (J σ) (poU J) (Ab b 74) 0 0 (f_X0_removeRow σ a1) := by
  refine met_of (by decide) (Nat.le_of_ble_eq_true rfl) ?_
  intro p e s m below meth c hC hKA hr _
  have hK := hKA.1
  unfold f_X0_removeRow
  refine s_sub (L' := [(0, .ref (b + 0)), (1, vI a1)]) [0, 1] rfl ?_
  refine s_aload_n hC dX0_removeRow_0 rfl 0 rfl ?_
  refine s_iload_n hC dX0_removeRow_1 rfl 1 rfl ?_
  refine s_callV_U (As := [vI a1]) (rest := []) (a := b + 0) hC hKA 1 (m_X0_liftPieces hJ hσ h1) (fun _ h => h) rfl (cb_of hC 1 q_c_yX0_liftPieces q_i_X0 q_m_X0_95 rfl rfl dd_yX0_liftPieces ⟨Nat.le_of_ble_eq_true rfl, Nat.le_of_ble_eq_true rfl⟩) q_i_yX0_liftPieces q_x_yX0_liftPieces (s_recv hK (hJ.1 σ) (by decide) o_Book rfl) rfl (Nat.le_of_ble_eq_true rfl) dX0_removeRow_2 ⟨Nat.zero_le _, Nat.zero_le _⟩ (fun σ1 hσ1 => ?_)
  refine s_aload_n hC dX0_removeRow_5 rfl 0 rfl ?_
  refine s_get (b := b) hC hK (hJ.1 σ1) (by decide) o_Book rfl q_w_X0 3 (by decide) q_f_X0_24 rfl dX0_removeRow_6 ?_
  refine s_aload_n hC dX0_removeRow_9 rfl 0 rfl ?_
  refine s_get (b := b) hC hK (hJ.1 σ1) (by decide) o_Book rfl q_w_X0 8 (by decide) q_f_X0_41 rfl dX0_removeRow_10 ?_
  refine s_iload_n hC dX0_removeRow_13 rfl 1 rfl ?_
  refine s_iaload hC hK (hJ.1 σ1) hσ1 (by decide) a_Book_10 dX0_removeRow_14 (fun v2 hv2 => ?_)
  refine s_callV_U (As := [vI v2]) (rest := []) (a := b + 1) hC hKA 1 (m_X3_vacate hJ hσ1 hv2) (fun _ h => h) rfl (cb_of hC 1 q_c_yX3_vacate q_i_X3 q_m_X0_99 rfl rfl dd_yX3_vacate ⟨Nat.le_of_ble_eq_true rfl, Nat.le_of_ble_eq_true rfl⟩) q_i_yX3_vacate q_x_yX3_vacate (s_recv hK (hJ.1 σ1) (by decide) o_Pages rfl) rfl (Nat.le_of_ble_eq_true rfl) dX0_removeRow_15 ⟨Nat.zero_le _, Nat.zero_le _⟩ (fun σ3 hσ3 => ?_)
  refine s_aload_n hC dX0_removeRow_18 rfl 0 rfl ?_
  refine s_iload_n hC dX0_removeRow_19 rfl 1 rfl ?_
  refine s_callV_P (As := [vI a1]) (rest := []) (a := b + 0) hC hKA 1 (m_X0_hasMoved (hJ.1 σ3) hσ3 h1) rfl (cb_of hC 1 q_c_yX0_hasMoved q_i_X0 q_m_X0_122 rfl rfl dd_yX0_hasMoved ⟨Nat.le_of_ble_eq_true rfl, Nat.le_of_ble_eq_true rfl⟩) q_i_yX0_hasMoved q_x_yX0_hasMoved (s_recv hK (hJ.1 σ3) (by decide) o_Book rfl) rfl (Nat.le_of_ble_eq_true rfl) dX0_removeRow_20 ⟨Nat.zero_le _, Nat.zero_le _⟩ (fun r4 hr4 => ?_)
  refine s_jp_B (J := J) 39 ([(0, .ref (b + 0)), (1, vI a1)]) ([]) (fun σ6 hσ6 => ?_) (fun j5 hj5 => ?_)
  · refine s_aload_n hC dX0_removeRow_39 rfl 0 rfl ?_
    refine s_get (b := b) hC hK (hJ.1 σ6) (by decide) o_Book rfl q_w_X0 4 (by decide) q_f_X0_28 rfl dX0_removeRow_40 ?_
    refine s_aload_n hC dX0_removeRow_43 rfl 0 rfl ?_
    refine s_get (b := b) hC hK (hJ.1 σ6) (by decide) o_Book rfl q_w_X0 5 (by decide) q_f_X0_32 rfl dX0_removeRow_44 ?_
    refine s_iload_n hC dX0_removeRow_47 rfl 1 rfl ?_
    refine s_iaload hC hK (hJ.1 σ6) hσ6 (by decide) a_Book_7 dX0_removeRow_48 (fun v7 hv7 => ?_)
    refine s_iconst hC dX0_removeRow_49 ?_
    refine s_iastore hC hK hJ (fun _ h => h) hσ6 (inR_c _ rfl) (by decide) a_Book_6 dX0_removeRow_50 (fun σ8 hσ8 => ?_)
    refine s_aload_n hC dX0_removeRow_51 rfl 0 rfl ?_
    refine s_get (b := b) hC hK (hJ.1 σ8) (by decide) o_Book rfl q_w_X0 5 (by decide) q_f_X0_32 rfl dX0_removeRow_52 ?_
    refine s_iload_n hC dX0_removeRow_55 rfl 1 rfl ?_
    refine s_iconst hC dX0_removeRow_56 ?_
    refine s_iastore hC hK hJ (fun _ h => h) hσ8 (inR_c _ rfl) (by decide) a_Book_7 dX0_removeRow_57 (fun σ9 hσ9 => ?_)
    refine s_aload_n hC dX0_removeRow_58 rfl 0 rfl ?_
    refine s_dup hC dX0_removeRow_59 rfl ?_
    refine s_get (b := b) hC hK (hJ.1 σ9) (by decide) o_Book rfl q_w_X0 2 (by decide) q_f_X0_18 rfl dX0_removeRow_60 ?_
    refine s_iconst hC dX0_removeRow_63 ?_
    refine s_isub hC dX0_removeRow_64 ?_
    refine s_ck0 (fun v10 hv10 => ?_)
    refine s_putP (ty := .int) hC hK hJ (fun _ h => h) hσ9 hv10 (by decide) o_Book rfl q_w_X0 tyX0_ok nmX0 2 (by decide) q_f_X0_18 rfl (by decide +kernel) rfl rfl (fun _ => Nat.le_of_ble_eq_true rfl) u_Book_2 dX0_removeRow_65 (fun σ11 hσ11 => ?_)
    exact s_vret hC hr dX0_removeRow_68 (fun H hH => ⟨rfl, hσ11, hH⟩)
  · refine s_if_eq (tgt := 39) hC dX0_removeRow_23 (by decide) hr4 ?_ ?_
    · exact hj5 σ3 hσ3
    · refine s_aload_n hC dX0_removeRow_26 rfl 0 rfl ?_
      refine s_get (b := b) hC hK (hJ.1 σ3) (by decide) o_Book rfl q_w_X0 3 (by decide) q_f_X0_24 rfl dX0_removeRow_27 ?_
      refine s_aload_n hC dX0_removeRow_30 rfl 0 rfl ?_
      refine s_get (b := b) hC hK (hJ.1 σ3) (by decide) o_Book rfl q_w_X0 7 (by decide) q_f_X0_38 rfl dX0_removeRow_31 ?_
      refine s_iload_n hC dX0_removeRow_34 rfl 1 rfl ?_
      refine s_iaload hC hK (hJ.1 σ3) hσ3 (by decide) a_Book_9 dX0_removeRow_35 (fun v12 hv12 => ?_)
      refine s_callV_U (As := [vI v12]) (rest := []) (a := b + 1) hC hKA 1 (m_X3_vacate hJ hσ3 hv12) (fun _ h => h) rfl (cb_of hC 1 q_c_yX3_vacate q_i_X3 q_m_X0_99 rfl rfl dd_yX3_vacate ⟨Nat.le_of_ble_eq_true rfl, Nat.le_of_ble_eq_true rfl⟩) q_i_yX3_vacate q_x_yX3_vacate (s_recv hK (hJ.1 σ3) (by decide) o_Pages rfl) rfl (Nat.le_of_ble_eq_true rfl) dX0_removeRow_36 ⟨Nat.zero_le _, Nat.zero_le _⟩ (fun σ13 hσ13 => ?_)
      exact hj5 σ13 hσ13
set_option maxHeartbeats 4000000 in
set_option maxRecDepth 100000 in
theorem m_X0_packAll {l : Launch} {G : Gt} {b : Nat} {σ : Blk} {J : Blk → Heap → Prop} (hJ : Wd G (layBook G b) 74 b J) (hσ : Rg σ)  : MetS l yX0_packAll cX0_packAll 2 (some .boolean) { frames := 4, cells := 0, slots := 0, locals := 96 } G [.ref (b + 0)] (J σ) (poW J) (Ab b 74) 0 0 (f_X0_packAll σ) := by
  refine met_of (by decide) (Nat.le_of_ble_eq_true rfl) ?_
  intro p e s m below meth c hC hKA hr _
  have hK := hKA.1
  unfold f_X0_packAll
  refine s_sub (L' := [(0, .ref (b + 0))]) [0] rfl ?_
  refine s_aload_n hC dX0_packAll_0 rfl 0 rfl ?_
  refine s_get (b := b) hC hK (hJ.1 σ) (by decide) o_Book rfl q_w_X0 3 (by decide) q_f_X0_24 rfl dX0_packAll_1 ?_
  refine s_callV_U (As := []) (rest := []) (a := b + 1) hC hKA 0 (m_X3_clear hJ hσ) (fun _ h => h) rfl (cb_of hC 0 q_c_yX3_clear q_i_X3 q_m_X0_125 rfl rfl dd_yX3_clear ⟨Nat.le_of_ble_eq_true rfl, Nat.le_of_ble_eq_true rfl⟩) q_i_yX3_clear q_x_yX3_clear (s_recv hK (hJ.1 σ) (by decide) o_Pages rfl) rfl (Nat.le_of_ble_eq_true rfl) dX0_packAll_4 ⟨Nat.zero_le _, Nat.zero_le _⟩ (fun σ1 hσ1 => ?_)
  refine s_iconst hC dX0_packAll_7 ?_
  refine s_istore_n (L' := [(1, vI 0), (0, .ref (b + 0))]) hC dX0_packAll_8 rfl (by decide) rfl ?_
  refine s_sub (L' := [(0, .ref (b + 0)), (1, vI 0)]) [1, 0] rfl ?_
  refine s_lp_IB (J := J) (F := f_X0_packAll_L9) 9 (fun x2 => [(0, .ref (b + 0)), (1, vI x2)]) (fun _ _ => rfl) (fun n ih9 x2 σ3 hx2 hσ3 => ?_) fu 0 σ1 (inR_c _ rfl) hσ1
  rw [f_X0_packAll_L9]
  refine s_iload_n hC dX0_packAll_9 rfl 1 rfl ?_
  refine s_bipush hC dX0_packAll_10 (by decide) ?_
  refine s_icmp_ge (tgt := 46) hC dX0_packAll_12 (by decide) hx2 (inR_c _ rfl) ?_ ?_
  · refine s_sub (L' := []) [] rfl ?_
    refine s_iconst hC dX0_packAll_46 ?_
    exact s_zret hC hr (Or.inr rfl) dX0_packAll_47 (fun H hH => ⟨rfl, (inR_c _ rfl), hσ3, hH⟩)
  · refine s_aload_n hC dX0_packAll_15 rfl 0 rfl ?_
    refine s_get (b := b) hC hK (hJ.1 σ3) (by decide) o_Book rfl q_w_X0 4 (by decide) q_f_X0_28 rfl dX0_packAll_16 ?_
    refine s_iload_n hC dX0_packAll_19 rfl 1 rfl ?_
    refine s_iaload hC hK (hJ.1 σ3) hσ3 (by decide) a_Book_6 dX0_packAll_20 (fun v4 hv4 => ?_)
    refine s_iconst hC dX0_packAll_21 ?_
    refine s_jp_B (J := J) 40 ([(0, .ref (b + 0)), (1, vI x2)]) ([]) (fun σ6 hσ6 => ?_) (fun j5 hj5 => ?_)
    · refine s_iincK hC dX0_packAll_40 1 rfl (by decide) (fun v7 => [(1, vI v7), (0, .ref (b + 0))]) (fun _ => rfl) (fun v7 hv7 => ?_)
      refine s_goto (tgt := 9) hC dX0_packAll_43 (by decide) ?_
      refine s_sub (L' := [(0, .ref (b + 0)), (1, vI v7)]) [1, 0] rfl ?_
      exact ih9 v7 σ6 hv7 hσ6
    · refine s_icmp_eq (tgt := 40) hC dX0_packAll_22 (by decide) hv4 (inR_c _ rfl) ?_ ?_
      · exact hj5 σ3 hσ3
      · refine s_aload_n hC dX0_packAll_25 rfl 0 rfl ?_
        refine s_aload_n hC dX0_packAll_26 rfl 0 rfl ?_
        refine s_get (b := b) hC hK (hJ.1 σ3) (by decide) o_Book rfl q_w_X0 4 (by decide) q_f_X0_28 rfl dX0_packAll_27 ?_
        refine s_iload_n hC dX0_packAll_30 rfl 1 rfl ?_
        refine s_iaload hC hK (hJ.1 σ3) hσ3 (by decide) a_Book_6 dX0_packAll_31 (fun v8 hv8 => ?_)
        refine s_callV_W (As := [vI v8]) (rest := []) (a := b + 0) hC hKA 1 (m_X0_layNew hJ hσ3 hv8) (fun _ h => h) rfl (cb_of hC 1 q_c_yX0_layNew q_i_X0 q_m_X0_78 rfl rfl dd_yX0_layNew ⟨Nat.le_of_ble_eq_true rfl, Nat.le_of_ble_eq_true rfl⟩) q_i_yX0_layNew q_x_yX0_layNew (s_recv hK (hJ.1 σ3) (by decide) o_Book rfl) rfl (Nat.le_of_ble_eq_true rfl) dX0_packAll_32 ⟨Nat.zero_le _, Nat.zero_le _⟩ (fun r9 σ10 hr9 hσ10 => ?_)
        refine s_if_ne (tgt := 40) hC dX0_packAll_35 (by decide) hr9 ?_ ?_
        · exact hj5 σ10 hσ10
        · refine s_sub (L' := []) [] rfl ?_
          refine s_iconst hC dX0_packAll_38 ?_
          exact s_zret hC hr (Or.inl rfl) dX0_packAll_39 (fun H hH => ⟨rfl, (inR_c _ rfl), hσ10, hH⟩)
set_option maxHeartbeats 4000000 in
set_option maxRecDepth 100000 in
theorem m_X0_costOf {l : Launch} {G : Gt} {b : Nat} {σ : Blk} {I : Heap → Prop} (hI : ∀ H, I H → Bk G (layBook G b) 74 b σ H) (hσ : Rg σ) {a1 : Int} (h1 : inR a1) : MetS l yX0_costOf cX0_costOf 6 (some .int) { frames := 0, cells := 0, slots := 0, locals := 0 } G [.ref (b + 0), vI a1] I (poP I) (fun _ => False) 0 0 (f_X0_costOf σ a1) := by
  refine met_of (by decide) (Nat.le_of_ble_eq_true rfl) ?_
  intro p e s m below meth c hC hKA hr _
  have hK := hKA.1
  unfold f_X0_costOf
  refine s_sub (L' := [(0, .ref (b + 0)), (1, vI a1)]) [0, 1] rfl ?_
  refine s_aload_n hC dX0_costOf_0 rfl 0 rfl ?_
  refine s_get (b := b) hC hK hI (by decide) o_Book rfl q_w_X0 8 (by decide) q_f_X0_41 rfl dX0_costOf_1 ?_
  refine s_iload_n hC dX0_costOf_4 rfl 1 rfl ?_
  refine s_iaload hC hK hI hσ (by decide) a_Book_10 dX0_costOf_5 (fun v1 hv1 => ?_)
  refine s_bipush hC dX0_costOf_6 (by decide) ?_
  refine s_idiv hC dX0_costOf_8 hv1 (inR_c _ rfl) (by decide) (fun v2 hv2 => ?_)
  refine s_istore_n (L' := [(2, vI v2), (0, .ref (b + 0)), (1, vI a1)]) hC dX0_costOf_9 rfl (by decide) rfl ?_
  refine s_iload_n hC dX0_costOf_10 rfl 0 rfl ?_
  refine s_aload_n hC dX0_costOf_11 rfl 1 rfl ?_
  refine s_get (b := b) hC hK hI (by decide) o_Book rfl q_w_X0 7 (by decide) q_f_X0_38 rfl dX0_costOf_12 ?_
  refine s_iload_n hC dX0_costOf_15 rfl 2 rfl ?_
  refine s_iaload hC hK hI hσ (by decide) a_Book_9 dX0_costOf_16 (fun v3 hv3 => ?_)
  refine s_bipush hC dX0_costOf_17 (by decide) ?_
  refine s_idiv hC dX0_costOf_19 hv3 (inR_c _ rfl) (by decide) (fun v4 hv4 => ?_)
  refine s_jp_I 28 (fun x6 => [(0, .ref (b + 0)), (1, vI a1), (2, vI v2)]) (fun x6 => [vI x6]) (fun x6 hx6 => ?_) (fun j5 hj5 => ?_)
  · refine s_istore_n (L' := [(3, vI x6), (0, .ref (b + 0)), (1, vI a1), (2, vI v2)]) hC dX0_costOf_28 rfl (by decide) rfl ?_
    refine s_iconst hC dX0_costOf_29 ?_
    refine s_istore (L' := [(4, vI 0), (3, vI x6), (0, .ref (b + 0)), (1, vI a1), (2, vI v2)]) hC dX0_costOf_30 (by decide) rfl ?_
    refine s_sub (L' := [(0, .ref (b + 0)), (1, vI a1), (2, vI v2), (3, vI x6), (4, vI 0)]) [2, 3, 4, 1, 0] rfl ?_
    refine s_lp_III (F := f_X0_costOf_L32 σ a1) 32 (fun x7 x8 x9 => [(0, .ref (b + 0)), (1, vI a1), (2, vI x7), (3, vI x8), (4, vI x9)]) (fun _ _ _ => rfl) (fun n ih32 x7 x8 x9 hx7 hx8 hx9 => ?_) fu v2 x6 0 hv2 hx6 (inR_c _ rfl)
    rw [f_X0_costOf_L32]
    refine s_iload hC dX0_costOf_32 4 rfl ?_
    refine s_aload_n hC dX0_costOf_34 rfl 0 rfl ?_
    refine s_get (b := b) hC hK hI (by decide) o_Book rfl q_w_X0 9 (by decide) q_f_X0_44 rfl dX0_costOf_35 ?_
    refine s_iload_n hC dX0_costOf_38 rfl 1 rfl ?_
    refine s_iaload hC hK hI hσ (by decide) a_Book_11 dX0_costOf_39 (fun v10 hv10 => ?_)
    refine s_icmp_ge (tgt := 75) hC dX0_costOf_40 (by decide) hx9 hv10 ?_ ?_
    · refine s_sub (L' := [(3, vI x8)]) [3] rfl ?_
      refine s_iload_n hC dX0_costOf_75 rfl 0 rfl ?_
      exact s_iret hC hr dX0_costOf_76 (fun H hH => ⟨rfl, hx8, hH⟩)
    · refine s_aload_n hC dX0_costOf_43 rfl 0 rfl ?_
      refine s_get (b := b) hC hK hI (by decide) o_Book rfl q_w_X0 10 (by decide) q_f_X0_49 rfl dX0_costOf_44 ?_
      refine s_iload_n hC dX0_costOf_47 rfl 1 rfl ?_
      refine s_aaloadG (b := b) hC hK hI (by decide) q_Book_12 dX0_costOf_48 (fun q11a q11b => ?_)
      refine s_iload hC dX0_costOf_49 4 rfl ?_
      refine s_iaload hC hK hI hσ (by omega) (a_Book_13 (by omega)) dX0_costOf_51 (fun v12 hv12 => ?_)
      refine s_bipush hC dX0_costOf_52 (by decide) ?_
      refine s_idiv hC dX0_costOf_54 hv12 (inR_c _ rfl) (by decide) (fun v13 hv13 => ?_)
      refine s_istore (L' := [(5, vI v13), (0, .ref (b + 0)), (1, vI a1), (2, vI x7), (3, vI x8), (4, vI x9)]) hC dX0_costOf_55 (by decide) rfl ?_
      refine s_iload hC dX0_costOf_57 0 rfl ?_
      refine s_iload_n hC dX0_costOf_59 rfl 3 rfl ?_
      refine s_jp_I 66 (fun x15 => [(0, .ref (b + 0)), (1, vI a1), (3, vI x15), (4, vI x9), (5, vI v13)]) (fun x15 => []) (fun x15 hx15 => ?_) (fun j14 hj14 => ?_)
      · refine s_iload hC dX0_costOf_66 4 rfl ?_
        refine s_istore_n (L' := [(2, vI v13), (0, .ref (b + 0)), (1, vI a1), (3, vI x15), (4, vI x9), (5, vI v13)]) hC dX0_costOf_68 rfl (by decide) rfl ?_
        refine s_iincK hC dX0_costOf_69 4 rfl (by decide) (fun v16 => [(4, vI v16), (2, vI v13), (0, .ref (b + 0)), (1, vI a1), (3, vI x15), (5, vI v13)]) (fun _ => rfl) (fun v16 hv16 => ?_)
        refine s_goto (tgt := 32) hC dX0_costOf_72 (by decide) ?_
        refine s_sub (L' := [(0, .ref (b + 0)), (1, vI a1), (2, vI v13), (3, vI x15), (4, vI v16)]) [2, 3, 1, 4, 0] rfl ?_
        exact ih32 v13 x15 v16 hv13 hx15 hv16
      · refine s_icmp_eq (tgt := 66) hC dX0_costOf_60 (by decide) hv13 hx7 ?_ ?_
        · refine s_sub (L' := [(0, .ref (b + 0)), (1, vI a1), (3, vI x8), (4, vI x9), (5, vI v13)]) [1, 2, 4, 5, 0] rfl ?_
          exact hj14 x8 hx8
        · refine s_sub (L' := [(0, .ref (b + 0)), (1, vI a1), (3, vI x8), (4, vI x9), (5, vI v13)]) [1, 2, 4, 5, 0] rfl ?_
          refine s_iincK hC dX0_costOf_63 2 rfl (by decide) (fun v17 => [(3, vI v17), (0, .ref (b + 0)), (1, vI a1), (4, vI x9), (5, vI v13)]) (fun _ => rfl) (fun v17 hv17 => ?_)
          refine s_sub (L' := [(0, .ref (b + 0)), (1, vI a1), (3, vI v17), (4, vI x9), (5, vI v13)]) [1, 2, 0, 3, 4] rfl ?_
          exact hj14 v17 hv17
  · refine s_icmp_ne (tgt := 27) hC dX0_costOf_20 (by decide) hv2 hv4 ?_ ?_
    · refine s_sub (L' := [(0, .ref (b + 0)), (1, vI a1), (2, vI v2)]) [1, 2, 0] rfl ?_
      refine s_iconst hC dX0_costOf_27 ?_
      exact hj5 2 (inR_c _ rfl)
    · refine s_sub (L' := [(0, .ref (b + 0)), (1, vI a1), (2, vI v2)]) [1, 2, 0] rfl ?_
      refine s_iconst hC dX0_costOf_23 ?_
      refine s_goto (tgt := 28) hC dX0_costOf_24 (by decide) ?_
      exact hj5 1 (inR_c _ rfl)
set_option maxHeartbeats 4000000 in
set_option maxRecDepth 100000 in
theorem m_X0_cellsOf {l : Launch} {G : Gt} {b : Nat} {σ : Blk} {I : Heap → Prop} (hI : ∀ H, I H → Bk G (layBook G b) 74 b σ H) (hσ : Rg σ) {a1 : Int} (h1 : inR a1) : MetS l yX0_cellsOf cX0_cellsOf 4 (some .int) { frames := 1, cells := 0, slots := 0, locals := 21 } G [.ref (b + 0), vI a1] I (poP I) (fun _ => False) 0 0 (f_X0_cellsOf σ a1) := by
  refine met_of (by decide) (Nat.le_of_ble_eq_true rfl) ?_
  intro p e s m below meth c hC hKA hr _
  have hK := hKA.1
  unfold f_X0_cellsOf
  refine s_sub (L' := [(0, .ref (b + 0)), (1, vI a1)]) [0, 1] rfl ?_
  refine s_aload_n hC dX0_cellsOf_0 rfl 0 rfl ?_
  refine s_get (b := b) hC hK hI (by decide) o_Book rfl q_w_X0 3 (by decide) q_f_X0_24 rfl dX0_cellsOf_1 ?_
  refine s_get (b := b) hC hK hI (by decide) o_Pages rfl q_w_X3 2 (by decide) q_f_X0_128 rfl dX0_cellsOf_4 ?_
  refine s_aload_n hC dX0_cellsOf_7 rfl 0 rfl ?_
  refine s_get (b := b) hC hK hI (by decide) o_Book rfl q_w_X0 8 (by decide) q_f_X0_41 rfl dX0_cellsOf_8 ?_
  refine s_iload_n hC dX0_cellsOf_11 rfl 1 rfl ?_
  refine s_iaload hC hK hI hσ (by decide) a_Book_10 dX0_cellsOf_12 (fun v1 hv1 => ?_)
  refine s_iaload hC hK hI hσ (by decide) a_Book_4 dX0_cellsOf_13 (fun v2 hv2 => ?_)
  refine s_istore_n (L' := [(2, vI v2), (0, .ref (b + 0)), (1, vI a1)]) hC dX0_cellsOf_14 rfl (by decide) rfl ?_
  refine s_iconst hC dX0_cellsOf_15 ?_
  refine s_istore_n (L' := [(3, vI 0), (2, vI v2), (0, .ref (b + 0)), (1, vI a1)]) hC dX0_cellsOf_16 rfl (by decide) rfl ?_
  refine s_sub (L' := [(0, .ref (b + 0)), (1, vI a1), (2, vI v2), (3, vI 0)]) [2, 3, 1, 0] rfl ?_
  refine s_jp_I 52 (fun x4 => [(0, .ref (b + 0)), (1, vI a1), (2, vI x4)]) (fun x4 => []) (fun x4 hx4 => ?_) (fun j3 hj3 => ?_)
  · refine s_aload_n hC dX0_cellsOf_52 rfl 0 rfl ?_
    refine s_iload_n hC dX0_cellsOf_53 rfl 1 rfl ?_
    refine s_callV_P (As := [vI a1]) (rest := []) (a := b + 0) hC hKA 1 (m_X0_hasMoved hI hσ h1) rfl (cb_of hC 1 q_c_yX0_hasMoved q_i_X0 q_m_X0_122 rfl rfl dd_yX0_hasMoved ⟨Nat.le_of_ble_eq_true rfl, Nat.le_of_ble_eq_true rfl⟩) q_i_yX0_hasMoved q_x_yX0_hasMoved (s_recv hK hI (by decide) o_Book rfl) rfl (Nat.le_of_ble_eq_true rfl) dX0_cellsOf_54 ⟨Nat.zero_le _, Nat.zero_le _⟩ (fun r5 hr5 => ?_)
    refine s_if_eq (tgt := 66) hC dX0_cellsOf_57 (by decide) hr5 ?_ ?_
    · refine s_sub (L' := [(2, vI x4)]) [2] rfl ?_
      refine s_iload_n hC dX0_cellsOf_66 rfl 0 rfl ?_
      refine s_sub (L' := []) [] rfl ?_
      exact s_iret hC hr dX0_cellsOf_67 (fun H hH => ⟨rfl, hx4, hH⟩)
    · refine s_sub (L' := [(2, vI x4)]) [2] rfl ?_
      refine s_iload_n hC dX0_cellsOf_60 rfl 0 rfl ?_
      refine s_iconst hC dX0_cellsOf_61 ?_
      refine s_iadd hC dX0_cellsOf_62 ?_
      refine s_goto (tgt := 67) hC dX0_cellsOf_63 (by decide) ?_
      refine s_sub (L' := []) [] rfl ?_
      refine s_ck0 (fun v6 hv6 => ?_)
      exact s_iret hC hr dX0_cellsOf_67 (fun H hH => ⟨rfl, hv6, hH⟩)
  · refine s_lp_II (F := f_X0_cellsOf_L17 σ a1 j3) 17 (fun x7 x8 => [(0, .ref (b + 0)), (1, vI a1), (2, vI x7), (3, vI x8)]) (fun _ _ => rfl) (fun n ih17 x7 x8 hx7 hx8 => ?_) fu v2 0 hv2 (inR_c _ rfl)
    rw [f_X0_cellsOf_L17]
    refine s_iload_n hC dX0_cellsOf_17 rfl 3 rfl ?_
    refine s_aload_n hC dX0_cellsOf_18 rfl 0 rfl ?_
    refine s_get (b := b) hC hK hI (by decide) o_Book rfl q_w_X0 9 (by decide) q_f_X0_44 rfl dX0_cellsOf_19 ?_
    refine s_iload_n hC dX0_cellsOf_22 rfl 1 rfl ?_
    refine s_iaload hC hK hI hσ (by decide) a_Book_11 dX0_cellsOf_23 (fun v9 hv9 => ?_)
    refine s_icmp_ge (tgt := 52) hC dX0_cellsOf_24 (by decide) hx8 hv9 ?_ ?_
    · refine s_sub (L' := [(0, .ref (b + 0)), (1, vI a1), (2, vI x7)]) [0, 1, 2] rfl ?_
      exact hj3 x7 hx7
    · refine s_iload_n hC dX0_cellsOf_27 rfl 2 rfl ?_
      refine s_aload_n hC dX0_cellsOf_28 rfl 0 rfl ?_
      refine s_get (b := b) hC hK hI (by decide) o_Book rfl q_w_X0 3 (by decide) q_f_X0_24 rfl dX0_cellsOf_29 ?_
      refine s_get (b := b) hC hK hI (by decide) o_Pages rfl q_w_X3 2 (by decide) q_f_X0_128 rfl dX0_cellsOf_32 ?_
      refine s_aload_n hC dX0_cellsOf_35 rfl 0 rfl ?_
      refine s_get (b := b) hC hK hI (by decide) o_Book rfl q_w_X0 10 (by decide) q_f_X0_49 rfl dX0_cellsOf_36 ?_
      refine s_iload_n hC dX0_cellsOf_39 rfl 1 rfl ?_
      refine s_aaloadG (b := b) hC hK hI (by decide) q_Book_12 dX0_cellsOf_40 (fun q10a q10b => ?_)
      refine s_iload_n hC dX0_cellsOf_41 rfl 3 rfl ?_
      refine s_iaload hC hK hI hσ (by omega) (a_Book_13 (by omega)) dX0_cellsOf_42 (fun v11 hv11 => ?_)
      refine s_iaload hC hK hI hσ (by decide) a_Book_4 dX0_cellsOf_43 (fun v12 hv12 => ?_)
      refine s_iadd hC dX0_cellsOf_44 ?_
      refine s_ck0 (fun v13 hv13 => ?_)
      refine s_istore_n (L' := [(2, vI v13), (0, .ref (b + 0)), (1, vI a1), (3, vI x8)]) hC dX0_cellsOf_45 rfl (by decide) rfl ?_
      refine s_iincK hC dX0_cellsOf_46 3 rfl (by decide) (fun v14 => [(3, vI v14), (2, vI v13), (0, .ref (b + 0)), (1, vI a1)]) (fun _ => rfl) (fun v14 hv14 => ?_)
      refine s_goto (tgt := 17) hC dX0_cellsOf_49 (by decide) ?_
      refine s_sub (L' := [(0, .ref (b + 0)), (1, vI a1), (2, vI v13), (3, vI v14)]) [2, 3, 1, 0] rfl ?_
      exact ih17 v13 v14 hv13 hv14
set_option maxHeartbeats 4000000 in
set_option maxRecDepth 100000 in
theorem m_X0_costInAll {l : Launch} {G : Gt} {b : Nat} {σ : Blk} {I : Heap → Prop} (hI : ∀ H, I H → Bk G (layBook G b) 74 b σ H) (hσ : Rg σ)  : MetS l yX0_costInAll cX0_costInAll 3 (some .int) { frames := 1, cells := 0, slots := 0, locals := 25 } G [.ref (b + 0)] I (poP I) (fun _ => False) 0 0 (f_X0_costInAll σ) := by
  refine met_of (by decide) (Nat.le_of_ble_eq_true rfl) ?_
  intro p e s m below meth c hC hKA hr _
  have hK := hKA.1
  unfold f_X0_costInAll
  refine s_sub (L' := [(0, .ref (b + 0))]) [0] rfl ?_
  refine s_iconst hC dX0_costInAll_0 ?_
  refine s_istore_n (L' := [(1, vI 0), (0, .ref (b + 0))]) hC dX0_costInAll_1 rfl (by decide) rfl ?_
  refine s_iconst hC dX0_costInAll_2 ?_
  refine s_istore_n (L' := [(2, vI 0), (1, vI 0), (0, .ref (b + 0))]) hC dX0_costInAll_3 rfl (by decide) rfl ?_
  refine s_sub (L' := [(0, .ref (b + 0)), (1, vI 0), (2, vI 0)]) [2, 1, 0] rfl ?_
  refine s_lp_II (F := f_X0_costInAll_L4 σ) 4 (fun x1 x2 => [(0, .ref (b + 0)), (1, vI x1), (2, vI x2)]) (fun _ _ => rfl) (fun n ih4 x1 x2 hx1 hx2 => ?_) fu 0 0 (inR_c _ rfl) (inR_c _ rfl)
  rw [f_X0_costInAll_L4]
  refine s_iload_n hC dX0_costInAll_4 rfl 2 rfl ?_
  refine s_bipush hC dX0_costInAll_5 (by decide) ?_
  refine s_icmp_ge (tgt := 34) hC dX0_costInAll_7 (by decide) hx2 (inR_c _ rfl) ?_ ?_
  · refine s_sub (L' := [(1, vI x1)]) [1] rfl ?_
    refine s_iload_n hC dX0_costInAll_34 rfl 0 rfl ?_
    exact s_iret hC hr dX0_costInAll_35 (fun H hH => ⟨rfl, hx1, hH⟩)
  · refine s_aload_n hC dX0_costInAll_10 rfl 0 rfl ?_
    refine s_get (b := b) hC hK hI (by decide) o_Book rfl q_w_X0 5 (by decide) q_f_X0_32 rfl dX0_costInAll_11 ?_
    refine s_iload_n hC dX0_costInAll_14 rfl 2 rfl ?_
    refine s_iaload hC hK hI hσ (by decide) a_Book_7 dX0_costInAll_15 (fun v3 hv3 => ?_)
    refine s_iconst hC dX0_costInAll_16 ?_
    refine s_jp_I 28 (fun x5 => [(0, .ref (b + 0)), (1, vI x5), (2, vI x2)]) (fun x5 => []) (fun x5 hx5 => ?_) (fun j4 hj4 => ?_)
    · refine s_iincK hC dX0_costInAll_28 2 rfl (by decide) (fun v6 => [(2, vI v6), (0, .ref (b + 0)), (1, vI x5)]) (fun _ => rfl) (fun v6 hv6 => ?_)
      refine s_goto (tgt := 4) hC dX0_costInAll_31 (by decide) ?_
      refine s_sub (L' := [(0, .ref (b + 0)), (1, vI x5), (2, vI v6)]) [1, 2, 0] rfl ?_
      exact ih4 x5 v6 hx5 hv6
    · refine s_icmp_eq (tgt := 28) hC dX0_costInAll_17 (by decide) hv3 (inR_c _ rfl) ?_ ?_
      · exact hj4 x1 hx1
      · refine s_iload_n hC dX0_costInAll_20 rfl 1 rfl ?_
        refine s_aload_n hC dX0_costInAll_21 rfl 0 rfl ?_
        refine s_iload_n hC dX0_costInAll_22 rfl 2 rfl ?_
        refine s_callV_P (As := [vI x2]) (rest := [vI x1]) (a := b + 0) hC hKA 1 (m_X0_costOf hI hσ hx2) rfl (cb_of hC 1 q_c_yX0_costOf q_i_X0 q_m_X0_131 rfl rfl dd_yX0_costOf ⟨Nat.le_of_ble_eq_true rfl, Nat.le_of_ble_eq_true rfl⟩) q_i_yX0_costOf q_x_yX0_costOf (s_recv hK hI (by decide) o_Book rfl) rfl (Nat.le_of_ble_eq_true rfl) dX0_costInAll_23 ⟨Nat.zero_le _, Nat.zero_le _⟩ (fun r7 hr7 => ?_)
        refine s_iadd hC dX0_costInAll_26 ?_
        refine s_ck0 (fun v8 hv8 => ?_)
        refine s_istore_n (L' := [(1, vI v8), (0, .ref (b + 0)), (2, vI x2)]) hC dX0_costInAll_27 rfl (by decide) rfl ?_
        refine s_sub (L' := [(0, .ref (b + 0)), (1, vI v8), (2, vI x2)]) [1, 0, 2] rfl ?_
        exact hj4 v8 hv8
set_option maxHeartbeats 4000000 in
set_option maxRecDepth 100000 in
theorem m_X0_greatestCost {l : Launch} {G : Gt} {b : Nat} {σ : Blk} {I : Heap → Prop} (hI : ∀ H, I H → Bk G (layBook G b) 74 b σ H) (hσ : Rg σ)  : MetS l yX0_greatestCost cX0_greatestCost 3 (some .int) { frames := 1, cells := 0, slots := 0, locals := 25 } G [.ref (b + 0)] I (poP I) (fun _ => False) 0 0 (f_X0_greatestCost σ) := by
  refine met_of (by decide) (Nat.le_of_ble_eq_true rfl) ?_
  intro p e s m below meth c hC hKA hr _
  have hK := hKA.1
  unfold f_X0_greatestCost
  refine s_sub (L' := [(0, .ref (b + 0))]) [0] rfl ?_
  refine s_iconst hC dX0_greatestCost_0 ?_
  refine s_istore_n (L' := [(1, vI 0), (0, .ref (b + 0))]) hC dX0_greatestCost_1 rfl (by decide) rfl ?_
  refine s_iconst hC dX0_greatestCost_2 ?_
  refine s_istore_n (L' := [(2, vI 0), (1, vI 0), (0, .ref (b + 0))]) hC dX0_greatestCost_3 rfl (by decide) rfl ?_
  refine s_sub (L' := [(0, .ref (b + 0)), (1, vI 0), (2, vI 0)]) [2, 1, 0] rfl ?_
  refine s_lp_II (F := f_X0_greatestCost_L4 σ) 4 (fun x1 x2 => [(0, .ref (b + 0)), (1, vI x1), (2, vI x2)]) (fun _ _ => rfl) (fun n ih4 x1 x2 hx1 hx2 => ?_) fu 0 0 (inR_c _ rfl) (inR_c _ rfl)
  rw [f_X0_greatestCost_L4]
  refine s_iload_n hC dX0_greatestCost_4 rfl 2 rfl ?_
  refine s_bipush hC dX0_greatestCost_5 (by decide) ?_
  refine s_icmp_ge (tgt := 36) hC dX0_greatestCost_7 (by decide) hx2 (inR_c _ rfl) ?_ ?_
  · refine s_sub (L' := [(1, vI x1)]) [1] rfl ?_
    refine s_iload_n hC dX0_greatestCost_36 rfl 0 rfl ?_
    exact s_iret hC hr dX0_greatestCost_37 (fun H hH => ⟨rfl, hx1, hH⟩)
  · refine s_aload_n hC dX0_greatestCost_10 rfl 0 rfl ?_
    refine s_get (b := b) hC hK hI (by decide) o_Book rfl q_w_X0 5 (by decide) q_f_X0_32 rfl dX0_greatestCost_11 ?_
    refine s_iload_n hC dX0_greatestCost_14 rfl 2 rfl ?_
    refine s_iaload hC hK hI hσ (by decide) a_Book_7 dX0_greatestCost_15 (fun v3 hv3 => ?_)
    refine s_iconst hC dX0_greatestCost_16 ?_
    refine s_jp_I 30 (fun x5 => [(0, .ref (b + 0)), (1, vI x5), (2, vI x2)]) (fun x5 => []) (fun x5 hx5 => ?_) (fun j4 hj4 => ?_)
    · refine s_iincK hC dX0_greatestCost_30 2 rfl (by decide) (fun v6 => [(2, vI v6), (0, .ref (b + 0)), (1, vI x5)]) (fun _ => rfl) (fun v6 hv6 => ?_)
      refine s_goto (tgt := 4) hC dX0_greatestCost_33 (by decide) ?_
      refine s_sub (L' := [(0, .ref (b + 0)), (1, vI x5), (2, vI v6)]) [1, 2, 0] rfl ?_
      exact ih4 x5 v6 hx5 hv6
    · refine s_icmp_eq (tgt := 30) hC dX0_greatestCost_17 (by decide) hv3 (inR_c _ rfl) ?_ ?_
      · exact hj4 x1 hx1
      · refine s_iload_n hC dX0_greatestCost_20 rfl 1 rfl ?_
        refine s_aload_n hC dX0_greatestCost_21 rfl 0 rfl ?_
        refine s_iload_n hC dX0_greatestCost_22 rfl 2 rfl ?_
        refine s_callV_P (As := [vI x2]) (rest := [vI x1]) (a := b + 0) hC hKA 1 (m_X0_costOf hI hσ hx2) rfl (cb_of hC 1 q_c_yX0_costOf q_i_X0 q_m_X0_131 rfl rfl dd_yX0_costOf ⟨Nat.le_of_ble_eq_true rfl, Nat.le_of_ble_eq_true rfl⟩) q_i_yX0_costOf q_x_yX0_costOf (s_recv hK hI (by decide) o_Book rfl) rfl (Nat.le_of_ble_eq_true rfl) dX0_greatestCost_23 ⟨Nat.zero_le _, Nat.zero_le _⟩ (fun r7 hr7 => ?_)
        refine s_mmax hC hx1 hr7 q_m_X0_134 q_s_Lib_Math_max_name q_i_J9 q_c_yJ9_max_7cf53 (Nat.le_of_ble_eq_true rfl) (Nat.le_of_ble_eq_true rfl) ⟨Nat.zero_le _, Nat.zero_le _⟩ dX0_greatestCost_26 ?_
        refine s_nm ((imax_in hx1 hr7)) (fun v8 hv8 => ?_)
        refine s_istore_n (L' := [(1, vI v8), (0, .ref (b + 0)), (2, vI x2)]) hC dX0_greatestCost_29 rfl (by decide) rfl ?_
        refine s_sub (L' := [(0, .ref (b + 0)), (1, vI v8), (2, vI x2)]) [1, 0, 2] rfl ?_
        exact hj4 v8 hv8
set_option maxHeartbeats 4000000 in
set_option maxRecDepth 100000 in
theorem m_X0_lettersInAll {l : Launch} {G : Gt} {b : Nat} {σ : Blk} {I : Heap → Prop} (hI : ∀ H, I H → Bk G (layBook G b) 74 b σ H) (hσ : Rg σ)  : MetS l yX0_lettersInAll cX0_lettersInAll 3 (some .int) { frames := 0, cells := 0, slots := 0, locals := 0 } G [.ref (b + 0)] I (poP I) (fun _ => False) 0 0 (f_X0_lettersInAll σ) := by
  refine met_of (by decide) (Nat.le_of_ble_eq_true rfl) ?_
  intro p e s m below meth c hC hKA hr _
  have hK := hKA.1
  unfold f_X0_lettersInAll
  refine s_sub (L' := [(0, .ref (b + 0))]) [0] rfl ?_
  refine s_iconst hC dX0_lettersInAll_0 ?_
  refine s_istore_n (L' := [(1, vI 0), (0, .ref (b + 0))]) hC dX0_lettersInAll_1 rfl (by decide) rfl ?_
  refine s_iconst hC dX0_lettersInAll_2 ?_
  refine s_istore_n (L' := [(2, vI 0), (1, vI 0), (0, .ref (b + 0))]) hC dX0_lettersInAll_3 rfl (by decide) rfl ?_
  refine s_sub (L' := [(0, .ref (b + 0)), (1, vI 0), (2, vI 0)]) [2, 1, 0] rfl ?_
  refine s_lp_II (F := f_X0_lettersInAll_L4 σ) 4 (fun x1 x2 => [(0, .ref (b + 0)), (1, vI x1), (2, vI x2)]) (fun _ _ => rfl) (fun n ih4 x1 x2 hx1 hx2 => ?_) fu 0 0 (inR_c _ rfl) (inR_c _ rfl)
  rw [f_X0_lettersInAll_L4]
  refine s_iload_n hC dX0_lettersInAll_4 rfl 2 rfl ?_
  refine s_bipush hC dX0_lettersInAll_5 (by decide) ?_
  refine s_icmp_ge (tgt := 35) hC dX0_lettersInAll_7 (by decide) hx2 (inR_c _ rfl) ?_ ?_
  · refine s_sub (L' := [(1, vI x1)]) [1] rfl ?_
    refine s_iload_n hC dX0_lettersInAll_35 rfl 0 rfl ?_
    exact s_iret hC hr dX0_lettersInAll_36 (fun H hH => ⟨rfl, hx1, hH⟩)
  · refine s_aload_n hC dX0_lettersInAll_10 rfl 0 rfl ?_
    refine s_get (b := b) hC hK hI (by decide) o_Book rfl q_w_X0 5 (by decide) q_f_X0_32 rfl dX0_lettersInAll_11 ?_
    refine s_iload_n hC dX0_lettersInAll_14 rfl 2 rfl ?_
    refine s_iaload hC hK hI hσ (by decide) a_Book_7 dX0_lettersInAll_15 (fun v3 hv3 => ?_)
    refine s_iconst hC dX0_lettersInAll_16 ?_
    refine s_jp_I 29 (fun x5 => [(0, .ref (b + 0)), (1, vI x5), (2, vI x2)]) (fun x5 => []) (fun x5 hx5 => ?_) (fun j4 hj4 => ?_)
    · refine s_iincK hC dX0_lettersInAll_29 2 rfl (by decide) (fun v6 => [(2, vI v6), (0, .ref (b + 0)), (1, vI x5)]) (fun _ => rfl) (fun v6 hv6 => ?_)
      refine s_goto (tgt := 4) hC dX0_lettersInAll_32 (by decide) ?_
      refine s_sub (L' := [(0, .ref (b + 0)), (1, vI x5), (2, vI v6)]) [1, 2, 0] rfl ?_
      exact ih4 x5 v6 hx5 hv6
    · refine s_icmp_eq (tgt := 29) hC dX0_lettersInAll_17 (by decide) hv3 (inR_c _ rfl) ?_ ?_
      · exact hj4 x1 hx1
      · refine s_iload_n hC dX0_lettersInAll_20 rfl 1 rfl ?_
        refine s_aload_n hC dX0_lettersInAll_21 rfl 0 rfl ?_
        refine s_get (b := b) hC hK hI (by decide) o_Book rfl q_w_X0 6 (by decide) q_f_X0_35 rfl dX0_lettersInAll_22 ?_
        refine s_iload_n hC dX0_lettersInAll_25 rfl 2 rfl ?_
        refine s_iaload hC hK hI hσ (by decide) a_Book_8 dX0_lettersInAll_26 (fun v7 hv7 => ?_)
        refine s_iadd hC dX0_lettersInAll_27 ?_
        refine s_ck0 (fun v8 hv8 => ?_)
        refine s_istore_n (L' := [(1, vI v8), (0, .ref (b + 0)), (2, vI x2)]) hC dX0_lettersInAll_28 rfl (by decide) rfl ?_
        refine s_sub (L' := [(0, .ref (b + 0)), (1, vI v8), (2, vI x2)]) [1, 0, 2] rfl ?_
        exact hj4 v8 hv8
