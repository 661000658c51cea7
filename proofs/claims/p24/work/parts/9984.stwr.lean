/-! PURE: the law's write of a row, all of it *)  -/
def wrStep (σ : Blk) (B : Nat → Blk) (nb : Nat) (T : Blk) (v16 v20 r142 x144 x149 : Int) (j28 : Blk → (Nat → Blk) → Nat → Blk → Option Int) : Option Int :=
  bd4 (g_X4_wipe σ B nb) fun r150 σ151 B152 N153 =>
  jp (fun (x155 : Int) (σ156 : Blk) (B157 : Nat → Blk) (N158 : Nat) (τ159 : Blk) =>
    if x155 = 0 then (
      some 0) else (
      bd4 (g_X4_put σ156 B157 N158 ((61 : Int64))) fun r160 σ161 B162 N163 =>
      if 1 ≤ r160 then (
        Option.bind (swL τ159 6 12 (2 * x149) ((0 : Int64))) fun τ164 =>
        Option.bind (swL τ164 6 12 ((2 * x149) + 1) ((0 : Int64))) fun τ165 =>
        jp (fun (σ167 : Blk) (B168 : Nat → Blk) (N169 : Nat) (τ170 : Blk) =>
          Option.bind (sw τ170 1 28 (4 * x149) v20) fun τ171 =>
          Option.bind (ld τ171 0 4 2) fun v172 =>
          jp (fun (x174 : Int) =>
            Option.bind (ck (v172 + x174)) fun v175 =>
            Option.bind (sw τ171 0 4 2 v175) fun τ176 =>
            bd2 (g_L_write τ176 x149 r142 x144 0 4 1 28 2 64) fun r178 τ177 =>
            if r178 = 0 then (
              some 0) else (
              bd4 (g_X4_write σ167 B168 N169) fun r179 σ180 B181 N182 =>
              if r179 = 1 then (
                j28 σ180 B181 N182 τ177) else (
                some 0))) fun j173 =>
          if x144 = 0 then (
            j173 0) else (
            j173 1)) fun j166 =>
        g_L_law_L370 v16 r142 x149 j166 fu 0 σ161 B162 N163 τ165) else (
        some 0))) fun j154 =>
  digStep σ151 B152 N153 T v20 j154
theorem st_wrstep {σ T τ : Blk} {B : Nat → Blk} {nb q r L v : Nat} (h : INV σ B nb T τ) (hq : σ 0 3 = q) (hv : v < 100) (hL : L ≤ 24) {is v16 : Int} (hr : (is = 0 ∧ rk (vb B q) v = r) ∨ (is = 1 ∧ rk (vb B q) v = -1 ∧ r = fz (τ 1) ∧ r < 6)) (j28 : Blk → (Nat → Blk) → Nat → Blk → Option Int) : ∃ σ' B' nb' T' τ', wrStep σ B nb T v16 v L is r j28 = j28 σ' B' nb' T' ∧ INV σ' B' nb' T' τ' := by
  have hB := h.1.2.1
  rw [hq, Int.toNat_natCast] at hB
  have hRW := hB.1.2.1
  have r6 : r < 6 := by
    rcases hr with ⟨-, hk⟩ | ⟨-, -, -, z⟩
    · rcases hRW.key v with z | ⟨x, hx, hx2, hi, -⟩
      · omega
      · have := (h.2.2.1.live hx hi).1
        omega
    · exact z
  obtain ⟨w, σ1, B1, n1, a1, a2⟩ := st_wipe h
  obtain ⟨d, σ2, B2, n2, τ2, b1, b2, b3, b4, b5, b6⟩ := st_digits a2 up2_s hv (fun (x155 : Int) (σ156 : Blk) (B157 : Nat → Blk) (N158 : Nat) (τ159 : Blk) =>
    if x155 = 0 then (
      some 0) else (
      bd4 (g_X4_put σ156 B157 N158 ((61 : Int64))) fun r160 σ161 B162 N163 =>
      if 1 ≤ r160 then (
        Option.bind (swL τ159 6 12 (2 * (r : Int)) ((0 : Int64))) fun τ164 =>
        Option.bind (swL τ164 6 12 ((2 * (r : Int)) + 1) ((0 : Int64))) fun τ165 =>
        jp (fun (σ167 : Blk) (B168 : Nat → Blk) (N169 : Nat) (τ170 : Blk) =>
          Option.bind (sw τ170 1 28 (4 * (r : Int)) v) fun τ171 =>
          Option.bind (ld τ171 0 4 2) fun v172 =>
          jp (fun (x174 : Int) =>
            Option.bind (ck (v172 + x174)) fun v175 =>
            Option.bind (sw τ171 0 4 2 v175) fun τ176 =>
            bd2 (g_L_write τ176 r L is 0 4 1 28 2 64) fun r178 τ177 =>
            if r178 = 0 then (
              some 0) else (
              bd4 (g_X4_write σ167 B168 N169) fun r179 σ180 B181 N182 =>
              if r179 = 1 then (
                j28 σ180 B181 N182 τ177) else (
                some 0))) fun j173 =>
          if is = 0 then (
            j173 0) else (
            j173 1)) fun j166 =>
        g_L_law_L370 v16 L r j166 fu 0 σ161 B162 N163 τ165) else (
        some 0)))
  rw [up2_ne (by omega)] at b6
  obtain ⟨σ3, B3, n3, c1, c2⟩ := st_put (len := d) (c := 61) b2 b4 (by omega) (by omega)
  have e61 : i2l ((61 : Nat) : Int) = (61 : Int64) := by decide
  rw [e61] at c1
  have hu3 : up2 (up2 τ2 7 d ((61 : Nat) : Int)) 0 8 ((d : Int) + 1) 7 = us (τ2 7) d 61 := by rw [up2_ne (by omega), up2_row]; rfl
  unfold wrStep
  rw [a1, bd4_t, jp_t]
  rw [b1, if_neg (by decide), c1, bd4_t, if_pos (by omega), swL_t (2 * r) (by omega) (by omega), bs, swL_t (2 * r + 1) (by omega) (by omega), bs, jp_t]
  obtain ⟨σ4, B4, n4, T4, τ4, d1, d2, d3, d4, d5, d6, d7, d8, d9⟩ := lets_loop (v16 := v16) (T0 := T) (r := r) (d := d) (L := L) (key := v) (s := τ 1) r6 b3 hL (j166 := fun (σ167 : Blk) (B168 : Nat → Blk) (N169 : Nat) (τ170 : Blk) =>
          Option.bind (sw τ170 1 28 (4 * (r : Int)) v) fun τ171 =>
          Option.bind (ld τ171 0 4 2) fun v172 =>
          jp (fun (x174 : Int) =>
            Option.bind (ck (v172 + x174)) fun v175 =>
            Option.bind (sw τ171 0 4 2 v175) fun τ176 =>
            bd2 (g_L_write τ176 r L is 0 4 1 28 2 64) fun r178 τ177 =>
            if r178 = 0 then (
              some 0) else (
              bd4 (g_X4_write σ167 B168 N169) fun r179 σ180 B181 N182 =>
              if r179 = 1 then (
                j28 σ180 B181 N182 τ177) else (
                some 0))) fun j173 =>
          if is = 0 then (
            j173 0) else (
            j173 1)) L 0 fu σ3 B3 n3 (upL (upL T (2 * r) 0) (2 * r + 1) 0) _ (by omega) (fu_lt (by omega)) c2 (by rw [up2_ne (by omega), up2_ne (by omega)]; exact b6) (by rw [up2_s]; omega) (by rw [hu3]; exact b5.congr (fun j hj => us_n (by omega))) (by rw [hu3]; exact ⟨us_s, fun x hx => by omega⟩) (fun c hc => by rw [upL_ne hc, upL_ne hc]) (fun y j hy hne hj => by rw [LV_n (by omega), LV_n (by omega)]) (LEx.zero (by rw [LV_n (by omega), LV_s]) LV_s)
  refine (show ∃ σ' B' nb' T' τ', _ = j28 σ' B' nb' T' ∧ INV σ' B' nb' T' τ' from ?_)
  obtain ⟨q4, f1, f2, hB4⟩ := d2.q
  have hrk : rk (vb B4 q4) (v : Int) = rk (vb B q) v := rk_uniq (s := τ 1) hRW (by rw [d3] at hB4; exact hB4.1.2.1) v
  obtain ⟨T5, σ5, B5, n5, τ5, g1, g2, g3⟩ := st_wrote (T := T4) (is := is) d2 d4 d5 d6 b3 hL d7 d8 d9 f1 (by rw [hrk, d3]; exact hr)
  have hs2 := hRW.s2
  have hT02 : T4 0 2 = τ 1 2 := by rw [d7 0 (by omega)]; exact h.2.2.2.1.2.2
  refine ⟨σ5, B5, n5, T5, τ5, d1.trans ?_, g3⟩
  rw [sw_t (4 * r) (by omega) (by omega), bs, ld_t 2 (by omega) (by omega), bs, up2_ne (show (0 : Nat) ≠ 1 by omega), hT02, jp_t]
  rw [hT02] at g1
  rcases hr with ⟨rfl, -⟩ | ⟨rfl, -⟩
  · rw [if_pos rfl]
    dsimp only
    rw [ck_t (by omega), bs, sw_t 2 (by omega) (by omega), bs, g1, bd2_t, if_neg (by decide), g2, bd4_t, if_pos rfl]
  · rw [if_neg (by decide)]
    dsimp only
    rw [ck_t (by omega), bs, sw_t 2 (by omega) (by omega), bs, g1, bd2_t, if_neg (by decide), g2, bd4_t, if_pos rfl]
