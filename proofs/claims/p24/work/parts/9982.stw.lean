/-! PURE: the law's write of a row, its tail *)  -/
theorem up2_id {T : Blk} {c k : Nat} {v : Int} (h : T c k = v) : up2 T c k v = T := by
  funext i j
  rw [up2_v]
  split
  · rename_i e
    rw [e.1, e.2, h]
  · rfl
theorem rk_uniq {β β' : Blk} {s : Nat → Int} (h : RW β s) (h' : RW β' s) (a : Int) : rk β' a = rk β a := by
  rcases h.key a with e | ⟨r, hr, hk, hi, hka, -⟩
  · rcases h'.key a with e' | ⟨r', hr', hk', hi', hka', -⟩
    · rw [e, e']
    · have := (h.of hr' hi').1
      rw [hka', e] at this
      omega
  · have := (h'.of hr hi).1
    rw [hka] at this
    rw [hk, this]
/-- both write, the pad holding one row's text -/
theorem st_wrote {σ T0 T τ : Blk} {B : Nat → Blk} {nb r d L : Nat} {key : Int} (h : INV σ B nb T0 τ) (h8 : τ 0 8 = ((d + 1 + L : Nat) : Int)) (hk : PADK (τ 7) d key) (hp : PADL (τ 7) d L) (hd : d ≤ 2) (hL : L ≤ 24) (h6 : ∀ c, c ≠ 6 → T c = T0 c) (hv : ∀ y j, y < 6 → y ≠ r → j < 2 → LV T (2 * y + j) = LV T0 (2 * y + j)) (hl : LEx T r (fun k => τ 7 (d + 1 + k) - 97) L) {is : Int} {q : Nat} (hq : σ 0 3 = q) (hr : (is = 0 ∧ rk (vb B q) key = r) ∨ (is = 1 ∧ rk (vb B q) key = -1 ∧ r = fz (τ 1) ∧ r < 6)) : ∃ T5 σ' B' nb' τ', g_L_write (up2 (up2 T 1 (4 * r) key) 0 2 (T 0 2 + is)) r L is 0 4 1 28 2 64 = some (1, T5) ∧ g_X4_write σ B nb = some (1, σ', B', nb') ∧ INV σ' B' nb' T5 τ' := by
  obtain ⟨hR, hI⟩ := id h
  have hB := hR.2.1
  rw [hq, Int.toNat_natCast] at hB
  have hRW := hB.1.2.1
  have hkey : 0 ≤ key ∧ key < 100 := by
    rcases hk with ⟨-, -, z⟩ | ⟨-, -, -, z⟩ <;> omega
  obtain ⟨u, ua, u1, u10, u8, uw⟩ := ref_write h8 (by omega) (by omega) hk hp hR.2.2.1.2.1
  have htold : ∀ k : Nat, (k : Int) < (L : Int) → 0 ≤ u 8 k ∧ u 8 k < 32 := fun k hk2 => by
    have := hp.2 k (by omega)
    rw [u8 k (by omega)]
    omega
  have hLE : LEx T r (u 8) L := hl.congr (fun _ _ => rfl) (fun k hk2 => u8 k hk2)
  obtain ⟨w, σ', B', nb', τ', s1, s2, s3⟩ := write_ok hR
  obtain ⟨B'', g1, g2⟩ := to_g b_write s1
  have fin : ∀ (T5 τ2 : Blk), g_L_write (up2 (up2 T 1 (4 * r) key) 0 2 (T 0 2 + is)) r L is 0 4 1 28 2 64 = some (1, T5) → f_X5_writes u key = some (1, τ2) → τ2 0 8 = u 0 8 → INVc T5 (τ2 1) → ∃ T5 σ' B' nb' τ', g_L_write (up2 (up2 T 1 (4 * r) key) 0 2 (T 0 2 + is)) r L is 0 4 1 28 2 64 = some (1, T5) ∧ g_X4_write σ B nb = some (1, σ', B', nb') ∧ INV σ' B' nb' T5 τ' := fun T5 τ2 f1 f2 f3 f4 => by
    have e := Prod.mk.inj (Option.some.inj ((uw τ2 f3 f2).symm.trans s2))
    refine ⟨T5, σ', B'', nb', τ', f1, by rw [g1, e.1], by rw [g2]; exact s3, ?_⟩
    rw [← e.2, up2_ne (by omega)]
    exact f4
  obtain ⟨⟨n, hT⟩, hLR, ⟨c0, c1, c2⟩, hLx, h5, h4⟩ := id hI
  rcases hr with ⟨rfl, hrk⟩ | ⟨rfl, hrk, hfz, r6⟩
  · rcases hRW.key key with z | ⟨r', hr', hk', hi, hka, -⟩
    · omega
    have er : r' = r := by omega
    subst er
    obtain ⟨l6, l0, -⟩ := hLR.live hr' hi
    have eT : up2 (up2 T 1 (4 * r') key) 0 2 (T 0 2 + 0) = T := by
      rw [up2_id (T := T) (c := 1) (by rw [h6 1 (by omega), l0, hka]), Int.add_zero]
      exact up2_id rfl
    obtain ⟨T5, τ2, f1, f2, f3, f4, f5⟩ := wr_again (T0 := T0) (T := T) (u := u) (β := vb B q) (r := r') (a := key) (len := L) (by rw [u1]; exact hI) (by rw [u1]; exact hB) hr' (by rw [u1]; exact hi) hk' h6 hv u10 (by omega) htold (by rw [Int.toNat_natCast]; exact hLE)
    exact fin T5 τ2 (by rw [eT]; exact f2) f1 (f5 8 (by omega)) f3
  · obtain ⟨T4, hT4⟩ : ∃ T4, up2 (up2 T 1 (4 * r) key) 0 2 (T 0 2 + 1) = T4 := ⟨_, rfl⟩
    rw [hT4] at fin ⊢
    have t0 : ∀ j, j ≠ 2 → T4 0 j = T0 0 j := fun j hj => by rw [← hT4, up2_n (by omega), up2_ne (by omega), h6 0 (by omega)]
    have t02 : T4 0 2 = T0 0 2 + 1 := by rw [← hT4, up2_s, h6 0 (by omega)]
    have t1 : ∀ j, j ≠ 4 * r → T4 1 j = T0 1 j := fun j hj => by rw [← hT4, up2_ne (by omega), up2_n (by omega), h6 1 (by omega)]
    have t1r : T4 1 (4 * r) = key := by rw [← hT4, up2_ne (by omega), up2_s]
    have t2 : T4 2 = T0 2 := by rw [← hT4, up2_ne (by omega), up2_ne (by omega), h6 2 (by omega)]
    have t6 : T4 6 = T 6 := by rw [← hT4, up2_ne (by omega), up2_ne (by omega)]
    have hT4T : TT T4 0 2 (u 1) n := hT.congr (t0 3 (by omega)) (fun k _ => by rw [t2]) (fun p _ => by rw [u1])
    obtain ⟨T5, τ2, u17, f1, f2, f3, f4, f5, -⟩ := writes_new (q := 0) (t := 2) (ir := 1) (n := n) (rem := 6) (T0 := T0) (T := T4) (u := u) (β := vb B q) (a := key) (len := L) (by omega) (by omega) (by omega) (by rw [u1]; exact hI) (by rw [u1]; exact hB) hkey hrk hT4T (by rw [t0 0 (by omega), u1]; exact c0) (by rw [t0 1 (by omega), u1]; exact c1) u10 (by omega) htold (by omega)
    rw [u1, ← hfz] at f2 f3 f4
    obtain ⟨a1, a2, a3, a4⟩ := addS_lo (s := τ 1) (r := r) (a := key) (by omega)
    have hpa := fun x k (hx : x < 30) (hk : k < 12) => pt_addS (s := τ 1) (a := key) (r := r) (by omega) hx hk
    refine fin T5 τ2 f2 f1 (by rw [f3.2.2.1.2.1 8 (by omega), f5 0 (by omega) (by omega)]) (wr_end (r := r) (n := n) (T := T4) (τ := u17) r6 (show 0 ≤ (L : Int) ∧ (L : Int) ≤ 24 by omega) (fun x hx hne => ?_) ?_ (fun x x1 x2 => ?_) ?_ ?_ (fun x hx hne hix => ?_) ?_ (fun x hx _ => ?_) f3)
    · rw [f4]
      unfold LR1
      rw [hpa x 0 (by omega) (by omega), hpa x 1 (by omega) (by omega), hpa x 2 (by omega) (by omega), hpa x 3 (by omega) (by omega), hpa x 4 (by omega) (by omega), if_neg hne, if_neg hne, if_neg hne, if_neg hne, if_neg hne, t1 _ (by omega), t1 _ (by omega), t1 _ (by omega), t1 _ (by omega)]
      exact hLR.1 x hx
    · rw [f4, hpa r 0 (by omega) (by omega), hpa r 1 (by omega) (by omega), if_pos rfl, if_pos rfl, if_pos rfl, if_neg (by decide), if_pos rfl]
      exact ⟨rfl, t1r⟩
    · rw [f4, hpa x 0 x2 (by omega), if_neg (by omega)]
      exact hLR.2 x x1 x2
    · rw [f4, a2, a3, a4, t0 0 (by omega), t0 1 (by omega), t02]
      exact ⟨c0, c1, by omega⟩
    · rw [f4, a3]
      exact h4
    · rw [f4, hpa x 0 (by omega) (by omega), if_neg hne] at hix
      have hlv := (hLR.live (by omega) hix).2.2.2.1
      rw [f4, hpa x 2 (by omega) (by omega), if_neg hne]
      exact (hLx x hx hix).congr (fun j hj => (LV_congr t6).trans (hv x j hx hne hj)) (fun k hk2 => lt_c (fun m hm => by rw [hpa x _ (by omega) (by omega), if_neg hne]) (by omega))
    · rw [Int.toNat_natCast, f5 8 (by omega) (by omega)]
      exact hLE.congr (fun j _ => LV_congr t6) (fun _ _ => rfl)
    · rw [f4, Wg_congr (fun p _ => a1 p), Wg_congr (fun p _ => a1 p)]
      exact h5 x hx
