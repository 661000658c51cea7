/-! PURE: the pad read, sign by sign: a step of each side *)  -/
def kv (c : Nat → Int) (s : Nat) : Nat → Int
  | 0 => 0
  | n + 1 => kv c s n * 10 + c (s + n) - 48
theorem x2_awaitKey {π : Blk} : f_X2_awaitKey π = some (up2 (up2 (up2 π 0 6 0) 0 7 0) 0 8 0) := rfl
theorem rt_end {π : Blk} {v : Int} (hv : v = 59) : f_X2_readInText π v = some (1, up2 (up2 (up2 π 0 6 0) 0 7 0) 0 8 0) := by
  unfold f_X2_readInText
  rw [if_neg (show ¬ v ≠ 59 by omega), x2_awaitKey, bs]
theorem rt_bad {π : Blk} {v : Int} {R : Nat} (h2 : π 0 2 = ((R + 1 : Nat) : Int)) (hR : R < 27) (hv : v ≠ 59) (h : ¬ ((97 ≤ v ∧ v ≤ 122) ∧ π 4 R < 40)) : f_X2_readInText π v = some (0, π) := by
  unfold f_X2_readInText
  rw [if_pos hv, h2, ck_t (by omega), bs]
  by_cases g1 : v < 97
  · rw [if_pos g1]
  rw [if_neg g1]
  by_cases g2 : 122 < v
  · rw [if_pos g2]
  rw [if_neg g2, if_neg (show ¬ ((R + 1 : Nat) : Int) - 1 < 0 by omega), ld_t R (by omega) hR, bs, if_neg (by omega)]
theorem rt_ok {π : Blk} {v : Int} {R : Nat} (h2 : π 0 2 = ((R + 1 : Nat) : Int)) (hR : R < 27) (h : (97 ≤ v ∧ v ≤ 122) ∧ π 4 R < 40) (h0 : 0 ≤ π 4 R) : f_X2_readInText π v = some (1, up2 π 4 R (π 4 R + 1)) := by
  unfold f_X2_readInText
  rw [if_pos (show v ≠ 59 by omega), h2, ck_t (by omega), bs, if_neg (show ¬ v < 97 by omega), if_neg (show ¬ 122 < v by omega), if_neg (show ¬ ((R + 1 : Nat) : Int) - 1 < 0 by omega), ld_t R (by omega) hR, bs, if_pos (show π 4 R < 40 by omega), bs, ck_t (by omega), bs, sw_t R (by omega) hR, bs]
theorem jp_z {α : Type} {K : Int → α} {a b : Int} (h : a ≤ 0 ∨ b ≠ 0) : jp K (fun j => if a ≤ 0 then j 0 else if b ≠ 0 then j 0 else j 1) = K 0 := by
  rw [jp_t]
  by_cases e : a ≤ 0
  · rw [if_pos e]
  · rw [if_neg e, if_pos (h.resolve_left e)]
theorem jp_z1 {α : Type} {K : Int → α} {a b : Int} (h : ¬ (a ≤ 0 ∨ b ≠ 0)) : jp K (fun j => if a ≤ 0 then j 0 else if b ≠ 0 then j 0 else j 1) = K 1 := by
  rw [jp_t, if_neg (fun z => h (Or.inl z)), if_neg (fun z => h (Or.inr z))]
theorem ky_eq0 {π : Blk} {k v : Int} (hv : v = 61) (h : π 0 7 ≤ 0) : f_X2_readInKey π k v = some (0, π) := by
  unfold f_X2_readInKey
  rw [if_neg (show ¬ v ≠ 61 by omega), if_pos h]
/-- a text begins -/
def bgT (π : Blk) (R : Nat) (k : Int) : Blk := up2 (up2 (up2 (up2 (up2 π 2 R (π 0 8)) 3 R (k + 1)) 4 R 0) 0 2 ((R : Int) + 1)) 0 6 1
theorem ky_eq1 {π : Blk} {k : Int} {v : Int} {R : Nat} (hv : v = 61) (h : ¬ π 0 7 ≤ 0) (h2 : π 0 2 = (R : Int)) (hR : R < 27) (hk : 0 ≤ k ∧ k < 80) : f_X2_readInKey π k v = some (1, bgT π R k) := by
  unfold f_X2_readInKey f_X2_startText
  rw [if_neg (show ¬ v ≠ 61 by omega), if_neg h, ck_t (a := k + 1) (by omega), bs, if_pos (show π 0 2 < 27 by omega), sw_t R h2 hR, bs, sw_t R (by rw [up2_ne (by omega)]; exact h2) hR, bs, sw_t R (by rw [up2_ne (by omega), up2_ne (by omega)]; exact h2) hR, bs, up2_ne (by omega), up2_ne (by omega), up2_ne (by omega), h2, ck_t (by omega), bs, pf_t, pf_t, bd2_t, if_neg (show ¬ ((1 : Int) = 0) by decide)]
  rfl
theorem ky_bad {π : Blk} {k v : Int} (h61 : v ≠ 61) (h : v < 48 ∨ 57 < v ∨ (0 < π 0 7 ∧ π 0 8 = 0)) : f_X2_readInKey π k v = some (0, π) := by
  unfold f_X2_readInKey
  rw [if_pos h61]
  by_cases g : π 0 7 ≤ 0 ∨ π 0 8 ≠ 0
  · rw [jp_z g]
    by_cases g1 : v < 48
    · rw [if_pos g1]
    · rw [if_neg g1, if_pos (show 57 < v by omega)]
  · rw [jp_z1 g]
    by_cases g1 : v < 48
    · rw [if_pos g1]
    rw [if_neg g1]
    by_cases g2 : 57 < v
    · rw [if_pos g2]
    rw [if_neg g2, if_neg (show ¬ ((1 : Int) = 0) by decide)]
theorem ky_dig {π : Blk} {k v : Int} (h1 : 48 ≤ v ∧ v ≤ 57) (h : π 0 7 ≤ 0 ∨ π 0 8 ≠ 0) (h8 : 0 ≤ π 0 8 ∧ π 0 8 < 100) (h7 : 0 ≤ π 0 7 ∧ π 0 7 < 100) : f_X2_readInKey π k v = some (if 100 ≤ π 0 8 * 10 + v - 48 then 0 else 1, up2 (up2 π 0 8 (π 0 8 * 10 + v - 48)) 0 7 (π 0 7 + 1)) := by
  unfold f_X2_readInKey
  rw [if_pos (show v ≠ 61 by omega), jp_z h, if_neg (show ¬ v < 48 by omega), if_neg (show ¬ 57 < v by omega), if_pos rfl, ck_t (a := π 0 8 * 10 + v - 48) (by omega), bs, pf_t, up2_n (show (0 : Nat) ≠ 0 ∨ (7 : Nat) ≠ 8 by omega), ck_t (a := π 0 7 + 1) (by omega), bs, pf_t, up2_n (show (0 : Nat) ≠ 0 ∨ (8 : Nat) ≠ 7 by omega), up2_s]
  split <;> rfl
theorem rd_end {π : Blk} {j : Blk → Option (Int × Blk)} {n k : Nat} (h : π 0 1 = (k : Int)) : f_X2_read_L11 j (n + 1) (k : Int) π = j π := by
  rw [f_X2_read_L11, if_pos (by omega)]
theorem rd_key {π π' : Blk} {j : Blk → Option (Int × Blk)} {n k : Nat} {v r : Int} (hl : (k : Int) < π 0 1) (hk : k < 80) (h6 : π 0 6 = 0) (hv : π 1 k = v) (e : f_X2_readInKey π k v = some (r, π')) : f_X2_read_L11 j (n + 1) (k : Int) π = if r ≠ 0 then f_X2_read_L11 j n ((k + 1 : Nat) : Int) π' else some ((k : Int), π') := by
  rw [f_X2_read_L11, if_neg (by omega), jp_t, if_pos h6, ld_t k rfl hk, hv, bs, e, bd2_t, ck_t (by omega)]
  rfl
theorem rd_text {π π' : Blk} {j : Blk → Option (Int × Blk)} {n k : Nat} {v r : Int} (hl : (k : Int) < π 0 1) (hk : k < 80) (h6 : π 0 6 = 1) (hv : π 1 k = v) (e : f_X2_readInText π v = some (r, π')) : f_X2_read_L11 j (n + 1) (k : Int) π = if r ≠ 0 then f_X2_read_L11 j n ((k + 1 : Nat) : Int) π' else some ((k : Int), π') := by
  rw [f_X2_read_L11, if_neg (by omega), jp_t, if_neg (show ¬ π 0 6 = 0 by omega), ld_t k rfl hk, hv, bs, e, bd2_t, ck_t (by omega)]
  rfl
/-! the model's four questions of a sign -/
def isD (v key lets : Int) : Int := if (48 ≤ v ∧ v ≤ 57) ∧ lets = -6 ∧ (key = -6 ∨ (0 < key ∧ key < 10)) then 1 else 0
def isS (v key lets : Int) : Int := if v = 61 ∧ lets = -6 ∧ key ≠ -6 then 1 else 0
def isL (v lets : Int) : Int := if (97 ≤ v ∧ v ≤ 122) ∧ lets ≠ -6 ∧ lets < 40 then 1 else 0
def isE (v lets : Int) : Int := if v = 59 ∧ lets ≠ -6 then 1 else 0
theorem jp_d {α : Type} {K : Int → α} {v key lets : Int} : jp K (fun j8 => if (if v < 48 then (0 : Int) else if 57 < v then 0 else 1) = 0 then j8 0 else if lets ≠ -6 then j8 0 else if key = -6 then j8 1 else if key ≤ 0 then j8 0 else if 10 ≤ key then j8 0 else j8 1) = K (isD v key lets) := by
  rw [jp_t]
  unfold isD
  by_cases g1 : v < 48
  · rw [if_pos g1, if_pos rfl, if_neg (by omega)]
  rw [if_neg g1]
  by_cases g2 : 57 < v
  · rw [if_pos g2, if_pos rfl, if_neg (by omega)]
  rw [if_neg g2, if_neg (show ¬ ((1 : Int) = 0) by decide)]
  by_cases g3 : lets ≠ -6
  · rw [if_pos g3, if_neg (by omega)]
  rw [if_neg g3]
  by_cases g4 : key = -6
  · rw [if_pos g4, if_pos (by omega)]
  rw [if_neg g4]
  by_cases g5 : key ≤ 0
  · rw [if_pos g5, if_neg (by omega)]
  rw [if_neg g5]
  by_cases g6 : 10 ≤ key
  · rw [if_pos g6, if_neg (by omega)]
  rw [if_neg g6, if_pos (by omega)]
theorem jp_s {α : Type} {K : Int → α} {v key lets : Int} : jp K (fun j10 => if v ≠ 61 then j10 0 else if lets ≠ -6 then j10 0 else if key = -6 then j10 0 else j10 1) = K (isS v key lets) := by
  rw [jp_t]
  unfold isS
  by_cases g1 : v ≠ 61
  · rw [if_pos g1, if_neg (by omega)]
  rw [if_neg g1]
  by_cases g3 : lets ≠ -6
  · rw [if_pos g3, if_neg (by omega)]
  rw [if_neg g3]
  by_cases g4 : key = -6
  · rw [if_pos g4, if_neg (by omega)]
  rw [if_neg g4, if_pos (by omega)]
theorem jp_l {α : Type} {K : Int → α} {v lets : Int} : jp K (fun j13 => if (if v < 97 then (0 : Int) else if 122 < v then 0 else 1) = 0 then j13 0 else if lets = -6 then j13 0 else if 40 ≤ lets then j13 0 else j13 1) = K (isL v lets) := by
  rw [jp_t]
  unfold isL
  by_cases g1 : v < 97
  · rw [if_pos g1, if_pos rfl, if_neg (by omega)]
  rw [if_neg g1]
  by_cases g2 : 122 < v
  · rw [if_pos g2, if_pos rfl, if_neg (by omega)]
  rw [if_neg g2, if_neg (show ¬ ((1 : Int) = 0) by decide)]
  by_cases g3 : lets = -6
  · rw [if_pos g3, if_neg (by omega)]
  rw [if_neg g3]
  by_cases g4 : 40 ≤ lets
  · rw [if_pos g4, if_neg (by omega)]
  rw [if_neg g4, if_pos (by omega)]
theorem jp_e {α : Type} {K : Int → α} {v lets : Int} : jp K (fun j15 => if v ≠ 59 then j15 0 else if lets = -6 then j15 0 else j15 1) = K (isE v lets) := by
  rw [jp_t]
  unfold isE
  by_cases g1 : v ≠ 59
  · rw [if_pos g1, if_neg (by omega)]
  rw [if_neg g1]
  by_cases g3 : lets = -6
  · rw [if_pos g3, if_neg (by omega)]
  rw [if_neg g3, if_pos (by omega)]
section FF
variable {τ : Blk} {j : Int → Option Int} {n k : Nat} {key lets v : Int}
theorem ff_D (hl : (k : Int) < τ 0 8) (hk : k < 80) (hv : τ 7 k = v) (hd : isD v key lets = 1) (he : isE v lets = 0) (hr : inR (if key = -6 then v - 48 else 10 * key + v - 48)) (hs : isS v key lets = 0) (ht : isL v lets = 0) : f_X5_findFault_L8 τ j (n + 1) key lets (k : Int) = f_X5_findFault_L8 τ j n (if key = -6 then v - 48 else 10 * key + v - 48) lets ((k + 1 : Nat) : Int) := by
  rw [f_X5_findFault_L8, if_neg (by omega), ld_t k rfl hk, hv, bs, x5_within, bs, jp_d, jp_s, x5_within, bs, jp_l, jp_e, hd, hs, ht, he, jp_t, if_pos (show (1 : Int) ≠ 0 by decide), jp_t, if_pos rfl, if_pos (show (1 : Int) ≠ 0 by decide)]
  by_cases g : key = -6
  · rw [if_pos g] at hr ⊢
    rw [if_neg (show ¬ key ≠ -6 by omega), ck_t hr, bs]
    dsimp only
    rw [jp_t, if_pos rfl, if_pos rfl, if_pos rfl]
    dsimp only
    rw [ck_t (by omega), bs]
    rfl
  · rw [if_neg g] at hr ⊢
    rw [if_pos (show key ≠ -6 from g), ck_t hr, bs]
    dsimp only
    rw [jp_t, if_pos rfl, if_pos rfl, if_pos rfl]
    dsimp only
    rw [ck_t (by omega), bs]
    rfl
theorem ff_S (hl : (k : Int) < τ 0 8) (hk : k < 80) (hv : τ 7 k = v) (hd : isD v key lets = 0) (hs : isS v key lets = 1) (ht : isL v lets = 0) (he : isE v lets = 0) : f_X5_findFault_L8 τ j (n + 1) key lets (k : Int) = f_X5_findFault_L8 τ j n key 0 ((k + 1 : Nat) : Int) := by
  rw [f_X5_findFault_L8, if_neg (by omega), ld_t k rfl hk, hv, bs, x5_within, bs, jp_d, jp_s, x5_within, bs, jp_l, jp_e, hd, hs, ht, he, jp_t, if_neg (show ¬ ((0 : Int) ≠ 0) by decide), if_pos (show (1 : Int) ≠ 0 by decide), jp_t, if_pos rfl, if_neg (show ¬ ((0 : Int) ≠ 0) by decide)]
  dsimp only
  rw [jp_t, if_pos rfl, if_neg (show ¬ ((1 : Int) = 0) by decide)]
  dsimp only
  rw [ck_t (by omega), bs]
  rfl
theorem ff_L (hl : (k : Int) < τ 0 8) (hk : k < 80) (hv : τ 7 k = v) (hd : isD v key lets = 0) (hs : isS v key lets = 0) (ht : isL v lets = 1) (he : isE v lets = 0) (hr : inR (lets + 1)) : f_X5_findFault_L8 τ j (n + 1) key lets (k : Int) = f_X5_findFault_L8 τ j n key (lets + 1) ((k + 1 : Nat) : Int) := by
  rw [f_X5_findFault_L8, if_neg (by omega), ld_t k rfl hk, hv, bs, x5_within, bs, jp_d, jp_s, x5_within, bs, jp_l, jp_e, hd, hs, ht, he, jp_t, if_neg (show ¬ ((0 : Int) ≠ 0) by decide), if_neg (show ¬ ((0 : Int) ≠ 0) by decide), if_pos (show (1 : Int) ≠ 0 by decide), jp_t, if_pos rfl, if_neg (show ¬ ((0 : Int) ≠ 0) by decide)]
  dsimp only
  rw [jp_t, if_pos rfl, if_pos rfl, if_neg (show ¬ ((1 : Int) = 0) by decide), ck_t hr, bs]
  dsimp only
  rw [ck_t (by omega), bs]
  rfl
theorem ff_E (hl : (k : Int) < τ 0 8) (hk : k < 80) (hv : τ 7 k = v) (hd : isD v key lets = 0) (hs : isS v key lets = 0) (ht : isL v lets = 0) (he : isE v lets = 1) : f_X5_findFault_L8 τ j (n + 1) key lets (k : Int) = f_X5_findFault_L8 τ j n (-6) (-6) ((k + 1 : Nat) : Int) := by
  rw [f_X5_findFault_L8, if_neg (by omega), ld_t k rfl hk, hv, bs, x5_within, bs, jp_d, jp_s, x5_within, bs, jp_l, jp_e, hd, hs, ht, he, jp_t, if_neg (show ¬ ((0 : Int) ≠ 0) by decide), if_neg (show ¬ ((0 : Int) ≠ 0) by decide), if_neg (show ¬ ((0 : Int) ≠ 0) by decide), if_pos (show (1 : Int) ≠ 0 by decide), jp_t, if_neg (show ¬ ((1 : Int) = 0) by decide)]
  dsimp only
  rw [jp_t, if_neg (show ¬ ((1 : Int) = 0) by decide)]
  dsimp only
  rw [ck_t (by omega), bs]
  rfl
theorem ff_0 (hl : (k : Int) < τ 0 8) (hk : k < 80) (hv : τ 7 k = v) (hd : isD v key lets = 0) (hs : isS v key lets = 0) (ht : isL v lets = 0) (he : isE v lets = 0) : f_X5_findFault_L8 τ j (n + 1) key lets (k : Int) = some (k : Int) := by
  rw [f_X5_findFault_L8, if_neg (by omega), ld_t k rfl hk, hv, bs, x5_within, bs, jp_d, jp_s, x5_within, bs, jp_l, jp_e, hd, hs, ht, he, jp_t, if_neg (show ¬ ((0 : Int) ≠ 0) by decide), if_neg (show ¬ ((0 : Int) ≠ 0) by decide), if_neg (show ¬ ((0 : Int) ≠ 0) by decide), if_neg (show ¬ ((0 : Int) ≠ 0) by decide)]
theorem ff_end (h : τ 0 8 = (k : Int)) : f_X5_findFault_L8 τ j (n + 1) key lets (k : Int) = j lets := by
  rw [f_X5_findFault_L8, if_pos (by omega)]
end FF
