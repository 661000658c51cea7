set_option maxHeartbeats 4000000 in
set_option maxRecDepth 100000 in
theorem m_J7_fill_53178 {l : Launch} {G : Gt} {b : Nat} {lay : Lay} {N : Nat} {σ : Blk} {J : Blk → Heap → Prop} (hJ : Wd G lay N b J) (hσ : Rg σ) {i1 n1 : Nat} (hi1 : i1 < N) (ha1 : isA G lay i1 n1) {a2 : Int} (h2 : inR a2) : MetS l yJ7_fill_53178 cJ7_fill_53178 4 none { frames := 0, cells := 0, slots := 0, locals := 0 } G [.ref (b + i1), vI a2] (J σ) (poU J) (Ab b N) 0 0 (f_J7_fill_53178 σ i1 n1 a2) := by
  refine met_of (by decide) (Nat.le_of_ble_eq_true rfl) ?_
  intro p e s m below meth c hC hKA hr _
  have hK := hKA.1
  unfold f_J7_fill_53178
  refine s_sub (L' := [(0, .ref (b + i1)), (1, vI a2)]) [0, 1] rfl ?_
  refine s_iconst hC dJ7_fill_53178_0 ?_
  refine s_istore_n (L' := [(2, vI 0), (0, .ref (b + i1)), (1, vI a2)]) hC dJ7_fill_53178_1 rfl (by decide) rfl ?_
  refine s_aload_n hC dJ7_fill_53178_2 rfl 1 rfl ?_
  refine s_alen hC hK (hJ.1 σ) hi1 ha1 dJ7_fill_53178_3 ?_
  refine s_nm ((inA ha1)) (fun v1 hv1 => ?_)
  refine s_istore_n (L' := [(3, vI v1), (2, vI 0), (0, .ref (b + i1)), (1, vI a2)]) hC dJ7_fill_53178_4 rfl (by decide) rfl ?_
  refine s_sub (L' := [(0, .ref (b + i1)), (1, vI a2), (2, vI 0), (3, vI v1)]) [2, 3, 1, 0] rfl ?_
  refine s_lp_IB (J := J) (F := f_J7_fill_53178_L5 i1 n1 a2 v1) 5 (fun x2 => [(0, .ref (b + i1)), (1, vI a2), (2, vI x2), (3, vI v1)]) (fun _ _ => rfl) (fun n ih5 x2 σ3 hx2 hσ3 => ?_) fu 0 σ (inR_c _ rfl) hσ
  rw [f_J7_fill_53178_L5]
  refine s_iload_n hC dJ7_fill_53178_5 rfl 2 rfl ?_
  refine s_iload_n hC dJ7_fill_53178_6 rfl 3 rfl ?_
  refine s_icmp_ge (tgt := 20) hC dJ7_fill_53178_7 (by decide) hx2 hv1 ?_ ?_
  · refine s_sub (L' := []) [] rfl ?_
    exact s_vret hC hr dJ7_fill_53178_20 (fun H hH => ⟨rfl, hσ3, hH⟩)
  · refine s_aload_n hC dJ7_fill_53178_10 rfl 0 rfl ?_
    refine s_iload_n hC dJ7_fill_53178_11 rfl 2 rfl ?_
    refine s_iload_n hC dJ7_fill_53178_12 rfl 1 rfl ?_
    refine s_iastore hC hK hJ (fun _ h => h) hσ3 h2 hi1 ha1 dJ7_fill_53178_13 (fun σ4 hσ4 => ?_)
    refine s_iincK hC dJ7_fill_53178_14 2 rfl (by decide) (fun v5 => [(2, vI v5), (0, .ref (b + i1)), (1, vI a2), (3, vI v1)]) (fun _ => rfl) (fun v5 hv5 => ?_)
    refine s_goto (tgt := 5) hC dJ7_fill_53178_17 (by decide) ?_
    refine s_sub (L' := [(0, .ref (b + i1)), (1, vI a2), (2, vI v5), (3, vI v1)]) [1, 2, 0, 3] rfl ?_
    exact ih5 v5 σ4 hv5 hσ4
theorem xor_nn {a b : Int32} (ha : 0 ≤ a) (hb : 0 ≤ b) : 0 ≤ a ^^^ b := by
  have h1 : a.toBitVec.msb = false := BitVec.zero_sle_iff_msb_eq_false.mp ha
  have h2 : b.toBitVec.msb = false := BitVec.zero_sle_iff_msb_eq_false.mp hb
  refine (BitVec.zero_sle_iff_msb_eq_false (x := (a ^^^ b).toBitVec)).mpr ?_
  rw [Int32.toBitVec_xor, BitVec.msb_xor, h1, h2]
  rfl
theorem met_ofF {l : Launch} {y : MethodName} {cc : ByteArray} {maxL : Nat} {ret : Option FieldType} {rm : Room} {G : Gt} {β : Type} {avs : List Value} {I : Heap → Prop} {po : β → Option Value → Heap → Prop} {A : Nat → Prop} {mc ms : Nat} {kk : Option β} (hy : plainFor y = true) (hlen : (lg_sl avs).length ≤ maxL)
    (body : ∀ (p : Program) (e : Env) (s : State) (m : MethodId) (below : List Frame) (meth : Method) (c : Code), Cx p s m avs.toArray meth c cc maxL y.cls → KA G s → meth.sig.returnType = ret → meth.name = y.name → Sim p l e rm s m avs.toArray below meth c maxL A (fun x => MQ below (Qm (po x) A) avs.toArray s mc ms A) 0 0 I 0 (lv_args 0 avs) [] kk) : MetS l y cc maxL ret rm G avs I po A mc ms kk := by
  intro x hx
  refine va_MetF (cc := cc) (maxL := maxL) (ret := ret) hy rfl ?_
  intro p e s m args below meth c s₁ B hml hv
  obtain ⟨rfl, hI, hK⟩ := hv
  rw [lg_entry_eq]
  exact body p e s m below meth c ⟨B.exec, B.bytes, hml, findClass_of_methodNamed B.named, fun w hw => atoms_spec (ws := .code y cc maxL ret :: lw_g) B.pre w (List.mem_cons_of_mem _ hw), B.notSynchronized⟩ hK B.returns (name_of_methodNamed B.named B.method).1 x hx s.heap [] _ hI va_S.rf (lv_entry avs hlen)
set_option maxHeartbeats 4000000 in
theorem m_J9_floorMod_7cf53 {l : Launch} {G : Gt} {I : Heap → Prop} {a1 : Int} (h1 : inR a1) {a2 : Int} (h2 : inR a2) : MetS l yJ9_floorMod_7cf53 cJ9_floorMod_7cf53 3 (some .int) { frames := 0, cells := 0, slots := 0, locals := 0 } G [vI a1, vI a2] I (poP I) (fun _ => False) 0 0 (fm a1 a2) := by
  refine met_ofF (by decide +kernel) (Nat.le_of_ble_eq_true rfl) ?_
  intro p e s m below meth c hC hKA hr _
  refine s_sub (L' := [(0, vI a1), (1, vI a2)]) [0, 1] rfl ?_
  unfold fm
  refine s_ite0 (fun h0 => ?_)
  refine s_iload_n hC dJ9_floorMod_7cf53_0 rfl 0 rfl ?_
  refine s_iload_n hC dJ9_floorMod_7cf53_1 rfl 1 rfl ?_
  have e1 : some (a1 % a2) = (rm_ a1 a2).bind some := by unfold rm_; rw [if_pos h0.1]; rfl
  rw [e1]
  refine s_irem hC dJ9_floorMod_7cf53_2 h1 h2 h0.2 (fun v hv => ?_)
  refine s_istore_n (L' := [(2, vI v), (0, vI a1), (1, vI a2)]) hC dJ9_floorMod_7cf53_3 rfl (by decide) rfl ?_
  refine s_iload_n hC dJ9_floorMod_7cf53_4 rfl 1 rfl ?_
  refine s_iload_n hC dJ9_floorMod_7cf53_5 rfl 2 rfl ?_
  refine s_ixor hC dJ9_floorMod_7cf53_6 ?_
  intro x hx H locs ls hI hS hL
  refine lv_if_ge (tgt := 18) hC.1 hC.2.1 dJ9_floorMod_7cf53_7 (by decide) (fun _ => ?_) (fun z => absurd (xor_nn ((i32_le (inR_c 0 rfl) h1).mpr h0.1) ((i32_le (inR_c 0 rfl) h2).mpr (by omega))) z)
  revert x H locs ls
  refine s_iload_n hC dJ9_floorMod_7cf53_18 rfl 0 rfl ?_
  exact s_iret hC hr dJ9_floorMod_7cf53_19 (fun H hH => ⟨rfl, hv, hH⟩)

set_option maxHeartbeats 4000000 in
set_option maxRecDepth 100000 in
theorem m_X4_at {l : Launch} {G : Gt} {b : Nat} {lay : Lay} {N : Nat} {σ : Blk} {I : Heap → Prop} (hI : ∀ H, I H → Bk G lay N b σ H) (hσ : Rg σ) {i1 n1 : Nat} (hi1 : i1 < N) (ha1 : isA G lay i1 n1) {a2 : Int} (h2 : inR a2) : MetS l yX4_at cX4_at 2 (some .int) { frames := 0, cells := 0, slots := 0, locals := 0 } G [.ref (b + i1), vI a2] I (poP I) (fun _ => False) 0 0 (g_X4_at σ i1 n1 a2) := by
  refine met_of (by decide) (Nat.le_of_ble_eq_true rfl) ?_
  intro p e s m below meth c hC hKA hr _
  have hK := hKA.1
  unfold g_X4_at
  refine s_sub (L' := [(0, .ref (b + i1)), (1, vI a2)]) [0, 1] rfl ?_
  refine s_iload_n hC dX4_at_0 rfl 1 rfl ?_
  refine s_if_lt (tgt := 10) hC dX4_at_1 (by decide) h2 ?_ ?_
  · refine s_sub (L' := []) [] rfl ?_
    refine s_iconst hC dX4_at_10 ?_
    refine s_goto (tgt := 17) hC dX4_at_11 (by decide) ?_
    exact s_iret hC hr dX4_at_17 (fun H hH => ⟨rfl, (inR_c _ rfl), hH⟩)
  · refine s_iload_n hC dX4_at_4 rfl 1 rfl ?_
    refine s_aload_n hC dX4_at_5 rfl 0 rfl ?_
    refine s_alen hC hK hI hi1 ha1 dX4_at_6 ?_
    refine s_icmp_lt (tgt := 14) hC dX4_at_7 (by decide) h2 (inA ha1) ?_ ?_
    · refine s_aload_n hC dX4_at_14 rfl 0 rfl ?_
      refine s_iload_n hC dX4_at_15 rfl 1 rfl ?_
      refine s_iaload hC hK hI hσ hi1 ha1 dX4_at_16 (fun v1 hv1 => ?_)
      refine s_sub (L' := []) [] rfl ?_
      exact s_iret hC hr dX4_at_17 (fun H hH => ⟨rfl, hv1, hH⟩)
    · refine s_sub (L' := []) [] rfl ?_
      refine s_iconst hC dX4_at_10 ?_
      refine s_goto (tgt := 17) hC dX4_at_11 (by decide) ?_
      exact s_iret hC hr dX4_at_17 (fun H hH => ⟨rfl, (inR_c _ rfl), hH⟩)
set_option maxHeartbeats 4000000 in
set_option maxRecDepth 100000 in
theorem m_X4_store {l : Launch} {G : Gt} {b : Nat} {lay : Lay} {N : Nat} {σ : Blk} {J : Blk → Heap → Prop} (hJ : Wd G lay N b J) (hσ : Rg σ) {i1 n1 : Nat} (hi1 : i1 < N) (ha1 : isA G lay i1 n1) {a2 : Int} (h2 : inR a2) {a3 : Int} (h3 : inR a3) : MetS l yX4_store cX4_store 3 none { frames := 0, cells := 0, slots := 0, locals := 0 } G [.ref (b + i1), vI a2, vI a3] (J σ) (poU J) (Ab b N) 0 0 (g_X4_store σ i1 n1 a2 a3) := by
  refine met_of (by decide) (Nat.le_of_ble_eq_true rfl) ?_
  intro p e s m below meth c hC hKA hr _
  have hK := hKA.1
  unfold g_X4_store
  refine s_sub (L' := [(0, .ref (b + i1)), (1, vI a2), (2, vI a3)]) [0, 1, 2] rfl ?_
  refine s_iload_n hC dX4_store_0 rfl 1 rfl ?_
  refine s_if_lt (tgt := 14) hC dX4_store_1 (by decide) h2 ?_ ?_
  · refine s_sub (L' := []) [] rfl ?_
    exact s_vret hC hr dX4_store_14 (fun H hH => ⟨rfl, hσ, hH⟩)
  · refine s_iload_n hC dX4_store_4 rfl 1 rfl ?_
    refine s_aload_n hC dX4_store_5 rfl 0 rfl ?_
    refine s_alen hC hK (hJ.1 σ) hi1 ha1 dX4_store_6 ?_
    refine s_icmp_ge (tgt := 14) hC dX4_store_7 (by decide) h2 (inA ha1) ?_ ?_
    · refine s_sub (L' := []) [] rfl ?_
      exact s_vret hC hr dX4_store_14 (fun H hH => ⟨rfl, hσ, hH⟩)
    · refine s_aload_n hC dX4_store_10 rfl 0 rfl ?_
      refine s_iload_n hC dX4_store_11 rfl 1 rfl ?_
      refine s_iload_n hC dX4_store_12 rfl 2 rfl ?_
      refine s_iastore hC hK hJ (fun _ h => h) hσ h3 hi1 ha1 dX4_store_13 (fun σ1 hσ1 => ?_)
      refine s_sub (L' := []) [] rfl ?_
      exact s_vret hC hr dX4_store_14 (fun H hH => ⟨rfl, hσ1, hH⟩)
