set_option maxHeartbeats 4000000 in
set_option maxRecDepth 100000 in
theorem m_J7_fill_53178 {l : Launch} {G : Gt} {b : Nat} {lay : Lay} {N : Nat} {σ : Blk} {J : Blk → Heap → Prop} (hJ : Wd G lay N b J) (hσ : Rg σ) {i1 n1 : Nat} (hi1 : i1 < N) (ha1 : isA G lay i1 n1) {a2 : Int} (h2 : inR a2) : MetS l yJ7_fill_53178 cJ7_fill_53178 4 none { frames := 0, cells := 0, slots := 0, locals := 0 } G [.ref (b + i1), vI a2] (J σ) (poU J) (Ab b N) 0 0 (f_J7_fill_53178 σ i1 n1 a2) := by
  refine met_of (by decide) (Nat.le_of_ble_eq_true rfl) ?_
  intro p e s m below meth c hC hKA hr _
  have hK := hKA.1
  unfold f_J7_fill_53178
  refine s_sub (L' := [(0, .ref (b + i1)), (1, vI a2)]) [0, 1] rfl ?_
  refine s_iconst hC dJ7_fill_53178_0 ?_
  refine s_istore_n (L' := [(2, vI 0), (0, .ref (b + i1)), (1, vI a2)]) hC dJ7_fill_53178_1 rfl (by decide) rfl ?_
  refine s_aload_n hC dJ7_fill_53178_2 rfl 1 rfl ?_
  refine s_alen hC hK (hJ.1 σ) hi1 ha1 dJ7_fill_53178_3 ?_
  refine s_nm ((inA ha1)) (fun v1 hv1 => ?_)
  refine s_istore_n (L' := [(3, vI v1), (2, vI 0), (0, .ref (b + i1)), (1, vI a2)]) hC dJ7_fill_53178_4 rfl (by decide) rfl ?_
  refine s_sub (L' := [(0, .ref (b + i1)), (1, vI a2), (2, vI 0), (3, vI v1)]) [2, 3, 1, 0] rfl ?_
  refine s_lp_IB (J := J) (F := f_J7_fill_53178_L5 i1 n1 a2 v1) 5 (fun x2 => [(0, .ref (b + i1)), (1, vI a2), (2, vI x2), (3, vI v1)]) (fun _ _ => rfl) (fun n ih5 x2 σ3 hx2 hσ3 => ?_) fu 0 σ (inR_c _ rfl) hσ
  rw [f_J7_fill_53178_L5]
  refine s_iload_n hC dJ7_fill_53178_5 rfl 2 rfl ?_
  refine s_iload_n hC dJ7_fill_53178_6 rfl 3 rfl ?_
  refine s_icmp_ge (tgt := 20) hC dJ7_fill_53178_7 (by decide) hx2 hv1 ?_ ?_
  · refine s_sub (L' := []) [] rfl ?_
    exact s_vret hC hr dJ7_fill_53178_20 (fun H hH => ⟨rfl, hσ3, hH⟩)
  · refine s_aload_n hC dJ7_fill_53178_10 rfl 0 rfl ?_
    refine s_iload_n hC dJ7_fill_53178_11 rfl 2 rfl ?_
    refine s_iload_n hC dJ7_fill_53178_12 rfl 1 rfl ?_
    refine s_iastore hC hK hJ (fun _ h => h) hσ3 h2 hi1 ha1 dJ7_fill_53178_13 (fun σ4 hσ4 => ?_)
    refine s_iincK hC dJ7_fill_53178_14 2 rfl (by decide) (fun v5 => [(2, vI v5), (0, .ref (b + i1)), (1, vI a2), (3, vI v1)]) (fun _ => rfl) (fun v5 hv5 => ?_)
    refine s_goto (tgt := 5) hC dJ7_fill_53178_17 (by decide) ?_
    refine s_sub (L' := [(0, .ref (b + i1)), (1, vI a2), (2, vI v5), (3, vI v1)]) [1, 2, 0, 3] rfl ?_
    exact ih5 v5 σ4 hv5 hσ4
