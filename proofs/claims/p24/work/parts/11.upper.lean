/-! THE WHOLE OBJECT: OverflowRows at x (9 cells with its Pad, its History and the two rows of references), then Books: the first two at x + 9 and x + 107, later ones one behind another from y0 on. References are the Books' numbers, -1 for null. -/
def ad (x y0 k : Nat) : Nat := if k = 0 then x + 9 else if k = 1 then x + 107 else y0 + 98 * (k - 2)
def bo (x y0 : Nat) (a : Int) : Option Nat := if a < 0 then none else some (ad x y0 a.toNat)
def rv (x y0 : Nat) (a : Int) : Value := va_rf (bo x y0 a)
def ib (G : Gt) (x y0 n : Nat) (d : Nat → Int) : va_E := .inl (G.2.2.2, (n, .inr (.inr (.inr (.inr (fun j => bo x y0 (d j)))))))
def fsX (x y0 : Nat) (d : Nat → Int) : List Value := [.ref (x + 1), .ref (x + 6), .ref (x + 8), rv x y0 (d 3), rv x y0 (d 4)]
def fsHi (x : Nat) (d : Nat → Int) : List Value := [.ref (x + 7), vI (d 1), vI (d 2)]
def fsPadX (x : Nat) (d : Nat → Int) : List Value := fsPad (x + 1) d
def layX (G : Gt) (x y0 : Nat) : Lay := fun i d => match i with
    | 0 => .inr (5, fsX x y0 d)
    | 1 => .inr (2, fsPadX x d)
    | 2 => ia G 80 d
    | 3 => ia G 27 d
    | 4 => ia G 27 d
    | 5 => ia G 27 d
    | 6 => .inr (1, fsHi x d)
    | 7 => ib G x y0 6 d
    | _ => ib G x y0 2 d
theorem o_X {G : Gt} {x y0 : Nat} : isO (layX G x y0) 0 5 (fsX x y0) := fun _ => rfl
theorem o_PadX {G : Gt} {x y0 : Nat} : isO (layX G x y0) 1 2 (fsPadX x) := fun _ => rfl
theorem o_Hi {G : Gt} {x y0 : Nat} : isO (layX G x y0) 6 1 (fsHi x) := fun _ => rfl
theorem a_X_2 {G : Gt} {x y0 : Nat} : isA G (layX G x y0) 2 80 := ⟨by decide, fun _ => rfl⟩
theorem a_X_3 {G : Gt} {x y0 : Nat} : isA G (layX G x y0) 3 27 := ⟨by decide, fun _ => rfl⟩
theorem a_X_4 {G : Gt} {x y0 : Nat} : isA G (layX G x y0) 4 27 := ⟨by decide, fun _ => rfl⟩
theorem a_X_5 {G : Gt} {x y0 : Nat} : isA G (layX G x y0) 5 27 := ⟨by decide, fun _ => rfl⟩
theorem u_PadX_1 {x : Nat} (σ : Blk) (a : Int) : fsPadX x (up2 σ 1 1 a 1) = (fsPadX x (σ 1)).set 1 (vI a) := rfl
theorem u_Hi_1 {x : Nat} (σ : Blk) (a : Int) : fsHi x (up2 σ 6 1 a 6) = (fsHi x (σ 6)).set 1 (vI a) := rfl
theorem u_Hi_2 {x : Nat} (σ : Blk) (a : Int) : fsHi x (up2 σ 6 2 a 6) = (fsHi x (σ 6)).set 2 (vI a) := rfl
theorem u_X_3 {x y0 : Nat} (σ : Blk) (a : Int) : fsX x y0 (up2 σ 0 3 a 0) = (fsX x y0 (σ 0)).set 3 (rv x y0 a) := rfl
theorem u_X_4 {x y0 : Nat} (σ : Blk) (a : Int) : fsX x y0 (up2 σ 0 4 a 0) = (fsX x y0 (σ 0)).set 4 (rv x y0 a) := rfl
def RgB (B : Nat → Blk) : Prop := ∀ k, Rg (B k)
def ub (B : Nat → Blk) (k : Nat) (β : Blk) : Nat → Blk := fun j => if j = k then β else B j
theorem ub_self (B : Nat → Blk) (k : Nat) : ub B k (B k) = B := by
  funext j
  unfold ub
  split
  · rename_i h
    rw [h]
  · rfl
theorem RgB_ub {B : Nat → Blk} {k : Nat} {β : Blk} (h : RgB B) (hβ : Rg β) : RgB (ub B k β) := by
  intro j
  unfold ub
  split
  · exact hβ
  · exact h j
def opad (σ : Blk) : Blk := fun c => σ (c + 1)
def ipad (σ π : Blk) : Blk := fun c => if 1 ≤ c ∧ c < 6 then π (c - 1) else σ c
theorem ipad_self (σ : Blk) : ipad σ (opad σ) = σ := by
  funext c
  unfold ipad opad
  split
  · rename_i h
    rw [Nat.sub_add_cancel h.1]
  · rfl
theorem Rg_opad {σ : Blk} (h : Rg σ) : Rg (opad σ) := fun c j => h (c + 1) j
theorem Rg_ipad {σ π : Blk} (h : Rg σ) (hπ : Rg π) : Rg (ipad σ π) := by
  intro c j
  unfold ipad
  split
  · exact hπ _ _
  · exact h _ _
def WX (G : Gt) (x y0 : Nat) (σ : Blk) (B : Nat → Blk) (nb : Nat) (H : Heap) : Prop := Bk G (layX G x y0) 9 x σ H ∧ (∀ k, k < nb → Bk G (layBook G (ad x y0 k)) 98 (ad x y0 k) (B k) H) ∧ H.size = y0 + 98 * (nb - 2) ∧ 2 ≤ nb ∧ x + 205 ≤ y0
def Rx (x y0 : Nat) : Nat → Prop := fun q => (x ≤ q ∧ q < x + 205) ∨ y0 ≤ q
def WV (G : Gt) (x y0 : Nat) (V : Blk → (Nat → Blk) → Nat → Heap → Prop) : Prop := (∀ σ B nb H, V σ B nb H → WX G x y0 σ B nb H) ∧ ∀ σ B nb σ' B' nb' H H1, V σ B nb H → WX G x y0 σ' B' nb' H1 → H.size ≤ H1.size → (∀ q, q < H.size → ¬ Rx x y0 q → H1[q]? = H[q]?) → V σ' B' nb' H1
theorem ad_lo {x y0 k : Nat} (h : x + 205 ≤ y0) : x + 9 ≤ ad x y0 k := by
  unfold ad
  split
  · omega
  · split <;> omega
theorem ad_Rx {x y0 k q : Nat} (h : x + 205 ≤ y0) (h1 : ad x y0 k ≤ q) (h2 : q < ad x y0 k + 98) : Rx x y0 q := by
  unfold Rx
  by_cases k0 : k = 0
  · simp only [ad, k0, if_true] at h1 h2
    omega
  · by_cases k1 : k = 1
    · simp only [ad, k1] at h1 h2
      simp at h1 h2
      omega
    · simp only [ad, k0, k1, if_false] at h1 h2
      omega
theorem ad_apart {x y0 k j : Nat} (h : x + 205 ≤ y0) (hk : k ≠ j) : ad x y0 k + 98 ≤ ad x y0 j ∨ ad x y0 j + 98 ≤ ad x y0 k := by
  unfold ad
  split
  · split
    · omega
    · split <;> omega
  · split
    · split
      · omega
      · split <;> omega
    · split
      · omega
      · split <;> omega
theorem WX.x {G : Gt} {x y0 nb : Nat} {σ : Blk} {B : Nat → Blk} {H : Heap} (h : WX G x y0 σ B nb H) : Bk G (layX G x y0) 9 x σ H := h.1
theorem WX.pad {G : Gt} {x y0 nb : Nat} {σ : Blk} {B : Nat → Blk} {H : Heap} (h : WX G x y0 σ B nb H) : Bk G (layPad G (x + 1)) 5 (x + 1) (opad σ) H := by
  intro i hi
  have h1 := h.1 (i + 1) (by omega)
  rw [show x + (i + 1) = x + 1 + i by omega] at h1
  match i, hi with
  | 0, _ => exact h1
  | 1, _ => exact h1
  | 2, _ => exact h1
  | 3, _ => exact h1
  | 4, _ => exact h1
theorem WX.book {G : Gt} {x y0 nb k : Nat} {σ : Blk} {B : Nat → Blk} {H : Heap} (h : WX G x y0 σ B nb H) (hk : k < nb) : Bk G (layBook G (ad x y0 k)) 98 (ad x y0 k) (B k) H := h.2.1 k hk
theorem WV.wx {G : Gt} {x y0 nb : Nat} {B : Nat → Blk} {V : Blk → (Nat → Blk) → Nat → Heap → Prop} (hV : WV G x y0 V) : Wd G (layX G x y0) 9 x (fun σ => V σ B nb) := by
  refine ⟨fun σ H h => (hV.1 _ _ _ _ h).1, fun σ σ' H H1 h hB hz ho => ?_⟩
  obtain ⟨h1, h2, h3, h4, h5⟩ := hV.1 _ _ _ _ h
  refine hV.2 _ _ _ _ _ _ H H1 h ⟨hB, fun k hk i hi => (h2 k hk i hi).kept (ho _ (by have := ad_lo (k := k) h5; show _ < _ ∨ _ ≤ ad x y0 k + i; omega)), by omega, h4, h5⟩ (by omega) (fun q hq hn => ho q ?_)
  unfold Rx at hn
  omega
theorem WV.wp {G : Gt} {x y0 nb : Nat} {σ : Blk} {B : Nat → Blk} {V : Blk → (Nat → Blk) → Nat → Heap → Prop} (hV : WV G x y0 V) : Wd G (layPad G (x + 1)) 5 (x + 1) (fun π => V (ipad σ π) B nb) := by
  refine ⟨fun π H h => ?_, fun π π' H H1 h hB hz ho => ?_⟩
  · have h1 := (hV.1 _ _ _ _ h).pad
    have e1 : opad (ipad σ π) = fun c => if c < 5 then π c else σ (c + 1) := by
      funext c
      unfold opad ipad
      by_cases hc : c < 5
      · rw [if_pos (by omega), if_pos hc]; rfl
      · rw [if_neg (by omega), if_neg hc]
    intro i hi
    have h2 := h1 i hi
    rw [e1] at h2
    simp only [hi, if_true] at h2
    exact h2
  · obtain ⟨h1, h2, h3, h4, h5⟩ := hV.1 _ _ _ _ h
    refine hV.2 _ _ _ _ _ _ H H1 h ⟨fun i hi => ?_, fun k hk i hi => (h2 k hk i hi).kept (ho _ (by have := ad_lo (k := k) h5; show _ < _ ∨ _ ≤ ad x y0 k + i; omega)), by omega, h4, h5⟩ (by omega) (fun q hq hn => ho q ?_)
    · by_cases hc : 1 ≤ i ∧ i < 6
      · have e1 : ipad σ π' i = π' (i - 1) := by unfold ipad; rw [if_pos hc]
        rw [e1]
        have h9 := hB (i - 1) (by omega)
        rw [show x + 1 + (i - 1) = x + i by omega] at h9
        obtain ⟨j, rfl⟩ : ∃ j, i = j + 1 := ⟨i - 1, by omega⟩
        match j, hc with
        | 0, _ => exact h9
        | 1, _ => exact h9
        | 2, _ => exact h9
        | 3, _ => exact h9
        | 4, _ => exact h9
        | j + 5, hc => omega
      · have e1 : ipad σ π' i = ipad σ π i := by unfold ipad; rw [if_neg hc, if_neg hc]
        rw [e1]
        exact (h1 i hi).kept (ho _ (by show x + i < _ ∨ _ ≤ x + i; omega))
    · unfold Rx at hn
      omega
theorem WV.wb {G : Gt} {x y0 nb k : Nat} {σ : Blk} {B : Nat → Blk} {V : Blk → (Nat → Blk) → Nat → Heap → Prop} (hV : WV G x y0 V) (hk : k < nb) : Wd G (layBook G (ad x y0 k)) 98 (ad x y0 k) (fun β => V σ (ub B k β) nb) := by
  refine ⟨fun β H h => ?_, fun β β' H H1 h hB hz ho => ?_⟩
  · have h1 := (hV.1 _ _ _ _ h).2.1 k hk
    have e1 : ub B k β k = β := by simp [ub]
    rw [e1] at h1
    exact h1
  · obtain ⟨h1, h2, h3, h4, h5⟩ := hV.1 _ _ _ _ h
    have hlo := ad_lo (k := k) h5
    refine hV.2 _ _ _ _ _ _ H H1 h ⟨fun i hi => (h1 i hi).kept (ho _ (by show x + i < _ ∨ _ ≤ x + i; omega)), fun j hj => ?_, by omega, h4, h5⟩ (by omega) (fun q hq hn => ho q ?_)
    · by_cases e : j = k
      · subst e
        have e1 : ub B j β' j = β' := by simp [ub]
        rw [e1]
        exact hB
      · have e1 : ub B k β' j = B j := by simp [ub, e]
        have e2 : ub B k β j = B j := by simp [ub, e]
        rw [e1]
        intro i hi
        have h9 := h2 j hj i hi
        rw [e2] at h9
        refine h9.kept (ho _ ?_)
        have := ad_apart (k := j) (j := k) h5 e
        show ad x y0 j + i < _ ∨ _ ≤ ad x y0 j + i
        omega
    · rcases Nat.lt_or_ge q (ad x y0 k) with z1 | z1
      · exact Or.inl z1
      · rcases Nat.lt_or_ge q (ad x y0 k + 98) with z2 | z2
        · exact absurd (ad_Rx h5 z1 z2) hn
        · exact Or.inr z2
