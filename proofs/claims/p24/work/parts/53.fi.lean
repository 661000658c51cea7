/-! PURE: which things there are: every thing is the head, the note or a piece of a row that is laid (w), or one of E -/
theorem mk_dec {k r n l : Int} (hk : 1 ≤ k ∧ k ≤ 3) (hr : 0 ≤ r ∧ r < 30) (hn : 0 ≤ n ∧ n < 64) (hl : 0 ≤ l ∧ l ≤ 16) : kd (mk k r n l) = k ∧ rwo (mk k r n l) = r ∧ nro (mk k r n l) = n ∧ lto (mk k r n l) = l ∧ tok (mk k r n l) ∧ mk k r n l ≠ 0 := by
  unfold kd rwo nro lto tok mk
  omega
theorem mk_cl1 {r n l : Int} (hr : 0 ≤ r ∧ r < 30) (hn : 0 ≤ n ∧ n < 64) (hl : 0 ≤ l ∧ l ≤ 16) : cl (mk 1 r n l) = 2 + l := by
  have h := mk_dec (k := 1) (by omega) hr hn hl
  unfold cl
  rw [if_pos h.1, h.2.2.2.1]
theorem mk_cl2 {r n l : Int} (hr : 0 ≤ r ∧ r < 30) (hn : 0 ≤ n ∧ n < 64) (hl : 0 ≤ l ∧ l ≤ 16) : cl (mk 2 r n l) = 1 + l := by
  have h := mk_dec (k := 2) (by omega) hr hn hl
  unfold cl
  rw [if_neg (by rw [h.1]; decide), if_pos h.1, h.2.2.2.1]
theorem mk_cl3 {r n l : Int} (hr : 0 ≤ r ∧ r < 30) (hn : 0 ≤ n ∧ n < 64) (hl : 0 ≤ l ∧ l ≤ 16) : cl (mk 3 r n l) = 1 := by
  have h := mk_dec (k := 3) (by omega) hr hn hl
  unfold cl
  rw [if_neg (by rw [h.1]; decide), if_neg (by rw [h.1]; decide), if_pos h.1]
/-- row r's own things -/
def OW (s at_ ho np : Nat → Int) (pp : Nat → Nat → Int) (r : Nat) : Prop :=
  (∃ h : Int, 0 ≤ h ∧ h ≤ 16 ∧ s (363 + (at_ r).toNat) = mk 1 r 0 h) ∧ (0 ≤ at_ r ∧ at_ r < 400) ∧ (0 ≤ ho r ∧ ho r < 400) ∧ (ho r ≠ at_ r → s (363 + (ho r).toNat) = mk 3 r 0 0) ∧ (0 ≤ np r ∧ np r ≤ 40) ∧
  ∀ i : Nat, (i : Int) < np r → (0 ≤ pp r i ∧ pp r i < 400) ∧ ∃ l : Int, 1 ≤ l ∧ l ≤ 12 ∧ s (363 + (pp r i).toNat) = mk 2 r i l
/-- thing q is row r's -/
def IS (s at_ ho np : Nat → Int) (pp : Nat → Nat → Int) (r q : Nat) : Prop :=
  (∃ h : Int, 0 ≤ h ∧ h ≤ 16 ∧ s (363 + q) = mk 1 r 0 h ∧ at_ r = q) ∨ (s (363 + q) = mk 3 r 0 0 ∧ ho r = q ∧ ho r ≠ at_ r) ∨ ∃ (i : Nat) (l : Int), (i : Int) < np r ∧ 1 ≤ l ∧ l ≤ 12 ∧ s (363 + q) = mk 2 r i l ∧ pp r i = q
def FI (s : Nat → Int) (w : Nat → Prop) (at_ ho np : Nat → Int) (pp : Nat → Nat → Int) (E : Nat → Prop) : Prop :=
  (∀ r, r < 30 → w r → OW s at_ ho np pp r) ∧ ∀ q, q < 400 → s (363 + q) ≠ 0 → (∃ r, r < 30 ∧ w r ∧ IS s at_ ho np pp r q) ∨ E q
theorem FI.own {s at_ ho np : Nat → Int} {w : Nat → Prop} {pp : Nat → Nat → Int} {E : Nat → Prop} (h : FI s w at_ ho np pp E) {r : Nat} (hr : r < 30) (hw : w r) : OW s at_ ho np pp r := h.1 r hr hw
/-- the row of a thing -/
theorem IS.row {s at_ ho np : Nat → Int} {pp : Nat → Nat → Int} {r q : Nat} (hr : r < 30) (hnp : np r ≤ 40) (h : IS s at_ ho np pp r q) : rwo (s (363 + q)) = r := by
  rcases h with ⟨l, h1, h2, h3, -⟩ | ⟨h3, -⟩ | ⟨i, l, h0, h1, h2, h3, -⟩
  · rw [h3]; exact (mk_dec (by omega) (by omega) (by omega) (by omega)).2.1
  · rw [h3]; exact (mk_dec (by omega) (by omega) (by omega) (by omega)).2.1
  · rw [h3]; exact (mk_dec (by omega) (by omega) (by omega) (by omega)).2.1
theorem IS.nz {s at_ ho np : Nat → Int} {pp : Nat → Nat → Int} {r q : Nat} (hr : r < 30) (hnp : np r ≤ 40) (h : IS s at_ ho np pp r q) : s (363 + q) ≠ 0 := by
  rcases h with ⟨l, h1, h2, h3, -⟩ | ⟨h3, -⟩ | ⟨i, l, h0, h1, h2, h3, -⟩
  · rw [h3]; exact (mk_dec (by omega) (by omega) (by omega) (by omega)).2.2.2.2.2
  · rw [h3]; exact (mk_dec (by omega) (by omega) (by omega) (by omega)).2.2.2.2.2
  · rw [h3]; exact (mk_dec (by omega) (by omega) (by omega) (by omega)).2.2.2.2.2
/-- a row's things lie where things of that row are -/
theorem OW.at {s at_ ho np : Nat → Int} {pp : Nat → Nat → Int} {r : Nat} (h : OW s at_ ho np pp r) : IS s at_ ho np pp r (at_ r).toNat := by
  obtain ⟨⟨l, h1, h2, h3⟩, h4, -⟩ := h
  exact Or.inl ⟨l, h1, h2, h3, by omega⟩
theorem OW.ho {s at_ ho np : Nat → Int} {pp : Nat → Nat → Int} {r : Nat} (h : OW s at_ ho np pp r) (hm : ho r ≠ at_ r) : IS s at_ ho np pp r (ho r).toNat := by
  obtain ⟨-, h4, h5, h6, -⟩ := h
  exact Or.inr (Or.inl ⟨h6 hm, by omega, hm⟩)
theorem OW.pp {s at_ ho np : Nat → Int} {pp : Nat → Nat → Int} {r i : Nat} (h : OW s at_ ho np pp r) (hi : (i : Int) < np r) : IS s at_ ho np pp r (pp r i).toNat := by
  obtain ⟨-, h4, h5, h6, h7, h8⟩ := h
  obtain ⟨h9, l, h10, h11, h12⟩ := h8 i hi
  exact Or.inr (Or.inr ⟨i, l, hi, h10, h11, h12, by omega⟩)
/-- a row's picture holds where its own things are the same -/
theorem OW.keep {s s' at_ ho np at' ho' np' : Nat → Int} {pp pp' : Nat → Nat → Int} {r : Nat} (h : OW s at_ ho np pp r) (hr : r < 30) (ea : at' r = at_ r) (eh : ho' r = ho r) (en : np' r = np r) (ep : ∀ i : Nat, (i : Int) < np r → pp' r i = pp r i) (hs : ∀ q, q < 400 → IS s at_ ho np pp r q → s' (363 + q) = s (363 + q)) : OW s' at' ho' np' pp' r := by
  have h' := h
  obtain ⟨⟨l, h1, h2, h3⟩, h4, h5, h6, h7, h8⟩ := h'
  refine ⟨⟨l, h1, h2, ?_⟩, by omega, by omega, fun hm => ?_, by omega, fun i hi => ?_⟩
  · rw [ea, hs _ (by omega) h.at]; exact h3
  · rw [eh, hs _ (by omega) (h.ho (by omega))]; exact h6 (by omega)
  · obtain ⟨h9, l2, h10, h11, h12⟩ := h8 i (by omega)
    rw [ep i (by omega)]
    exact ⟨h9, l2, h10, h11, by rw [hs _ (by omega) (h.pp (by omega))]; exact h12⟩
theorem IS.keep {s s' at_ ho np at' ho' np' : Nat → Int} {pp pp' : Nat → Nat → Int} {r q : Nat} (h : IS s at_ ho np pp r q) (ea : at' r = at_ r) (eh : ho' r = ho r) (en : np' r = np r) (ep : ∀ i : Nat, (i : Int) < np r → pp' r i = pp r i) (hs : s' (363 + q) = s (363 + q)) : IS s' at' ho' np' pp' r q := by
  rcases h with ⟨l, h1, h2, h3, h4⟩ | ⟨h3, h4, h5⟩ | ⟨i, l, h0, h1, h2, h3, h4⟩
  · exact Or.inl ⟨l, h1, h2, by rw [hs]; exact h3, by omega⟩
  · exact Or.inr (Or.inl ⟨by rw [hs]; exact h3, by omega, by omega⟩)
  · exact Or.inr (Or.inr ⟨i, l, by omega, h1, h2, by rw [hs]; exact h3, by rw [ep i h0]; exact h4⟩)
/-- the rows p 0 .. p (n-1) are emptied -/
def dropS (s : Nat → Int) (p : Nat → Int) : Nat → Nat → Int
  | 0 => s
  | n + 1 => us (dropS s p n) (363 + (p n).toNat) 0
theorem dropS_out {s : Nat → Int} {p : Nat → Int} {j : Nat} : ∀ {n : Nat}, (∀ i, i < n → j ≠ 363 + (p i).toNat) → dropS s p n j = s j
  | 0, _ => rfl
  | n + 1, h => by
    unfold dropS
    rw [us_n (h n (by omega))]
    exact dropS_out (fun i hi => h i (by omega))
theorem dropS_in {s : Nat → Int} {p : Nat → Int} {j i : Nat} : ∀ {n : Nat}, i < n → j = 363 + (p i).toNat → dropS s p n j = 0
  | 0, h, _ => by omega
  | n + 1, h, e => by
    unfold dropS
    by_cases e2 : j = 363 + (p n).toNat
    · rw [e2, us_s]
    · rw [us_n e2]
      exact dropS_in (i := i) (by
        rcases Nat.lt_or_ge i n with h1 | h1
        · exact h1
        · have : i = n := by omega
          subst this
          exact absurd e e2) e
/-- the pieces of row r go -/
theorem FI.drop {s at_ ho np : Nat → Int} {w : Nat → Prop} {pp : Nat → Nat → Int} {E : Nat → Prop} (h : FI s w at_ ho np pp E) {r : Nat} (hr : r < 30) (hw : w r) : FI (dropS s (pp r) (np r).toNat) w at_ ho (us np r 0) pp E := by
  have hown := h.own hr hw
  obtain ⟨⟨l0, a1, a2, a3⟩, a4, a5, a6, a7, a8⟩ := hown
  have key : ∀ q, q < 400 → (∀ i : Nat, (i : Int) < np r → s (363 + q) ≠ mk 2 r i 0 + 8192 * (s (363 + q) / 8192)) → dropS s (pp r) (np r).toNat (363 + q) = s (363 + q) := by
    intro q hq hne
    refine dropS_out (fun i hi e => ?_)
    obtain ⟨b1, l, b2, b3, b4⟩ := a8 i (by omega)
    have e2 : q = (pp r i).toNat := by omega
    subst e2
    refine hne i (by omega) ?_
    rw [b4]
    unfold mk
    omega
  have other : ∀ r', r' < 30 → w r' → r' ≠ r → ∀ q, q < 400 → IS s at_ ho np pp r' q → dropS s (pp r) (np r).toNat (363 + q) = s (363 + q) := by
    intro r' hr' hw' hne q hq hi
    have hrow := hi.row hr' (h.own hr' hw').2.2.2.2.1.2
    refine key q hq (fun i hi2 e => ?_)
    have h1 := hi.nz hr' (h.own hr' hw').2.2.2.2.1.2
    unfold rwo at hrow
    unfold mk at e
    omega
  refine ⟨fun r' hr' hw' => ?_, fun q hq h0 => ?_⟩
  · by_cases e : r' = r
    · subst e
      refine ⟨⟨l0, a1, a2, ?_⟩, a4, a5, fun hm => ?_, by rw [us_s]; omega, fun i hi => by rw [us_s] at hi; omega⟩
      · rw [key _ (by omega) (fun i hi e => by rw [a3] at e; unfold mk at e; omega)]; exact a3
      · rw [key _ (by omega) (fun i hi e => by rw [a6 hm] at e; unfold mk at e; omega)]; exact a6 hm
    · exact (h.own hr' hw').keep hr' rfl rfl (us_n e) (fun _ _ => rfl) (other r' hr' hw' e)
  · have hs : dropS s (pp r) (np r).toNat (363 + q) = s (363 + q) := by
      refine dropS_out (fun i hi e => h0 ?_)
      exact dropS_in (i := i) hi e
    rw [hs] at h0
    rcases h.2 q hq h0 with ⟨r', hr', hw', hi⟩ | hE
    · by_cases e : r' = r
      · subst e
        refine Or.inl ⟨r', hr', hw', ?_⟩
        rcases hi with ⟨l, h1, h2, h3, h4⟩ | ⟨h3, h4, h5⟩ | ⟨i, l, b0, h1, h2, h3, h4⟩
        · exact Or.inl ⟨l, h1, h2, by rw [hs]; exact h3, h4⟩
        · exact Or.inr (Or.inl ⟨by rw [hs]; exact h3, h4, h5⟩)
        · exfalso
          have := dropS_in (s := s) (p := pp r') (j := 363 + q) (i := i) (n := (np r').toNat) (by omega) (by omega)
          rw [this] at hs
          exact h0 hs.symm
      · exact Or.inl ⟨r', hr', hw', hi.keep rfl rfl (us_n e) (fun _ _ => rfl) hs⟩
    · exact Or.inr hE
/-- a row without pieces loses its head; its note, if it has one, stays as one of E -/
theorem FI.unhead {s at_ ho np : Nat → Int} {w : Nat → Prop} {pp : Nat → Nat → Int} (h : FI s w at_ ho np pp (fun _ => False)) {r : Nat} (hr : r < 30) (hw : w r) (hn : np r = 0) : FI (us s (363 + (at_ r).toNat) 0) (fun x => w x ∧ x ≠ r) at_ ho np pp (fun q => ho r = q ∧ ho r ≠ at_ r) := by
  have hown := h.own hr hw
  obtain ⟨⟨l0, a1, a2, a3⟩, a4, a5, a6, a7, a8⟩ := hown
  have other : ∀ r', r' < 30 → w r' → r' ≠ r → ∀ q, q < 400 → IS s at_ ho np pp r' q → us s (363 + (at_ r).toNat) 0 (363 + q) = s (363 + q) := by
    intro r' hr' hw' hne q hq hi
    have hrow := hi.row hr' (h.own hr' hw').2.2.2.2.1.2
    refine us_n (fun e => ?_)
    have e2 : q = (at_ r).toNat := by omega
    subst e2
    rw [a3] at hrow
    have := (mk_dec (k := 1) (r := r) (n := 0) (l := l0) (by omega) (by omega) (by omega) (by omega)).2.1
    omega
  refine ⟨fun r' hr' hw' => (h.own hr' hw'.1).keep hr' rfl rfl rfl (fun _ _ => rfl) (other r' hr' hw'.1 hw'.2), fun q hq h0 => ?_⟩
  by_cases e : q = (at_ r).toNat
  · subst e; rw [us_s] at h0; exact absurd rfl h0
  · have hs : us s (363 + (at_ r).toNat) 0 (363 + q) = s (363 + q) := us_n (by omega)
    rw [hs] at h0
    rcases h.2 q hq h0 with ⟨r', hr', hw', hi⟩ | hE
    · by_cases e2 : r' = r
      · subst e2
        rcases hi with ⟨l, h1, h2, h3, h4⟩ | ⟨h3, h4, h5⟩ | ⟨i, l, b0, h1, h2, h3, h4⟩
        · omega
        · exact Or.inr ⟨h4, h5⟩
        · omega
      · exact Or.inl ⟨r', hr', ⟨hw', e2⟩, hi.keep rfl rfl rfl (fun _ _ => rfl) hs⟩
    · exact hE.elim
/-- E may shrink where a thing goes, or grow -/
theorem FI.setE {s at_ ho np : Nat → Int} {w : Nat → Prop} {pp : Nat → Nat → Int} {E E' : Nat → Prop} (h : FI s w at_ ho np pp E) {j : Nat} {t : Int} (hj : j < 400) (hfree : s (363 + j) = 0 ∨ (E j ∧ ∀ r, r < 30 → w r → ¬ IS s at_ ho np pp r j)) (hE : ∀ q, q < 400 → q ≠ j → E q → E' q) (ht : t ≠ 0 → E' j) : FI (us s (363 + j) t) w at_ ho np pp E' := by
  have other : ∀ r, r < 30 → w r → ∀ q, q < 400 → IS s at_ ho np pp r q → us s (363 + j) t (363 + q) = s (363 + q) := by
    intro r hr hw q hq hi
    refine us_n (fun e => ?_)
    have e2 : q = j := by omega
    subst e2
    rcases hfree with h1 | h1
    · exact hi.nz hr (h.own hr hw).2.2.2.2.1.2 h1
    · exact h1.2 r hr hw hi
  refine ⟨fun r hr hw => (h.own hr hw).keep hr rfl rfl rfl (fun _ _ => rfl) (other r hr hw), fun q hq h0 => ?_⟩
  by_cases e : q = j
  · subst e
    rw [us_s] at h0
    exact Or.inr (ht h0)
  · have hs : us s (363 + j) t (363 + q) = s (363 + q) := us_n (by omega)
    rw [hs] at h0
    rcases h.2 q hq h0 with ⟨r', hr', hw', hi⟩ | hEq
    · exact Or.inl ⟨r', hr', hw', hi.keep rfl rfl rfl (fun _ _ => rfl) hs⟩
    · exact Or.inr (hE q hq e hEq)
/-- a row that isn't laid gets its head at q -/
theorem FI.head {s at_ ho np : Nat → Int} {w : Nat → Prop} {pp : Nat → Nat → Int} {r q : Nat} {l : Int} (h : FI s w at_ ho np pp (fun x => ho r = x ∧ ho r ≠ q)) (hr : r < 30) (hw : ¬ w r) (hq : q < 400) (hho : 0 ≤ ho r ∧ ho r < 400) (h0 : s (363 + q) = 0) (hl : 0 ≤ l ∧ l ≤ 16) (hnote : ho r ≠ q → s (363 + (ho r).toNat) = mk 3 r 0 0) : FI (us s (363 + q) (mk 1 r 0 l)) (fun x => w x ∨ x = r) (us at_ r q) ho (us np r 0) pp (fun _ => False) := by
  have other : ∀ r', r' < 30 → w r' → ∀ z, z < 400 → IS s at_ ho np pp r' z → us s (363 + q) (mk 1 r 0 l) (363 + z) = s (363 + z) := by
    intro r' hr' hw' z hz hi
    refine us_n (fun e => ?_)
    have e2 : z = q := by omega
    subst e2
    exact hi.nz hr' (h.own hr' hw').2.2.2.2.1.2 h0
  have hne : ∀ r', w r' → r' ≠ r := fun r' hw' e => hw (e ▸ hw')
  refine ⟨fun r' hr' hw' => ?_, fun z hz hz0 => ?_⟩
  · by_cases e : r' = r
    · subst e
      refine ⟨⟨l, hl.1, hl.2, by rw [us_s, Int.toNat_natCast, us_s]⟩, by rw [us_s]; omega, hho, fun hm => ?_, by rw [us_s]; omega, fun i hi => by rw [us_s] at hi; omega⟩
      rw [us_s] at hm
      rw [us_n (by omega)]
      exact hnote hm
    · have hw2 : w r' := hw'.resolve_right e
      exact (h.own hr' hw2).keep hr' (us_n e) rfl (us_n e) (fun _ _ => rfl) (other r' hr' hw2)
  · by_cases e : z = q
    · subst e
      exact Or.inl ⟨r, hr, Or.inr rfl, Or.inl ⟨l, hl.1, hl.2, us_s, us_s⟩⟩
    · have hs : us s (363 + q) (mk 1 r 0 l) (363 + z) = s (363 + z) := us_n (by omega)
      rw [hs] at hz0
      rcases h.2 z hz hz0 with ⟨r', hr', hw', hi⟩ | ⟨hE, hE2⟩
      · exact Or.inl ⟨r', hr', Or.inl hw', hi.keep (us_n (hne r' hw')) rfl (us_n (hne r' hw')) (fun _ _ => rfl) hs⟩
      · refine Or.inl ⟨r, hr, Or.inr rfl, Or.inr (Or.inl ⟨?_, hE, by rw [us_s]; exact hE2⟩)⟩
        rw [hs]
        have := hnote hE2
        rw [show (ho r).toNat = z by omega] at this
        exact this
/-- a laid row gets its next piece at q -/
theorem FI.piece {s at_ ho np : Nat → Int} {w : Nat → Prop} {pp pp' : Nat → Nat → Int} {r q : Nat} {l : Int} (h : FI s w at_ ho np pp (fun _ => False)) (hr : r < 30) (hw : w r) (hq : q < 400) (h0 : s (363 + q) = 0) (hl : 1 ≤ l ∧ l ≤ 12) (hn : np r < 40) (hpp : pp' r (np r).toNat = q) (hpo : ∀ x i, (x ≠ r ∨ i ≠ (np r).toNat) → pp' x i = pp x i) : FI (us s (363 + q) (mk 2 r (np r) l)) w at_ ho (us np r (np r + 1)) pp' (fun _ => False) := by
  have hown := h.own hr hw
  have other : ∀ r', r' < 30 → w r' → ∀ z, z < 400 → IS s at_ ho np pp r' z → us s (363 + q) (mk 2 r (np r) l) (363 + z) = s (363 + z) := by
    intro r' hr' hw' z hz hi
    refine us_n (fun e => ?_)
    have e2 : z = q := by omega
    subst e2
    exact hi.nz hr' (h.own hr' hw').2.2.2.2.1.2 h0
  refine ⟨fun r' hr' hw' => ?_, fun z hz hz0 => ?_⟩
  · by_cases e : r' = r
    · subst e
      have hk := hown.keep (s' := us s (363 + q) (mk 2 r' (np r') l)) (at' := at_) (ho' := ho) (np' := np) (pp' := pp') hr rfl rfl rfl (fun i hi => hpo r' i (Or.inr (by omega))) (other r' hr hw)
      obtain ⟨b1, b2, b3, b4, b5, b6⟩ := hk
      refine ⟨b1, b2, b3, b4, by rw [us_s]; omega, fun i hi => ?_⟩
      rw [us_s] at hi
      by_cases e3 : (i : Int) < np r'
      · exact b6 i e3
      · have e4 : i = (np r').toNat := by omega
        rw [e4, hpp]
        refine ⟨by omega, l, hl.1, hl.2, ?_⟩
        rw [Int.toNat_natCast, us_s]
        rw [show (((np r').toNat : Nat) : Int) = np r' by omega]
    · exact (h.own hr' hw').keep hr' rfl rfl (us_n e) (fun i _ => hpo r' i (Or.inl e)) (other r' hr' hw')
  · by_cases e : z = q
    · subst e
      refine Or.inl ⟨r, hr, hw, Or.inr (Or.inr ⟨(np r).toNat, l, by rw [us_s]; have := hown.2.2.2.2.1; omega, hl.1, hl.2, ?_, hpp⟩)⟩
      rw [us_s]
      have := hown.2.2.2.2.1
      rw [show (((np r).toNat : Nat) : Int) = np r by omega]
    · have hs : us s (363 + q) (mk 2 r (np r) l) (363 + z) = s (363 + z) := us_n (by omega)
      rw [hs] at hz0
      rcases h.2 z hz hz0 with ⟨r', hr', hw', hi⟩ | hE
      · refine Or.inl ⟨r', hr', hw', ?_⟩
        by_cases e2 : r' = r
        · subst e2
          have hk := hi.keep (s' := us s (363 + q) (mk 2 r' (np r') l)) (at' := at_) (ho' := ho) (np' := np) (pp' := pp') rfl rfl rfl (fun i hi => hpo r' i (Or.inr (by omega))) hs
          rcases hk with c1 | c1 | ⟨i, l2, c0, c1⟩
          · exact Or.inl c1
          · exact Or.inr (Or.inl c1)
          · exact Or.inr (Or.inr ⟨i, l2, by rw [us_s]; omega, c1⟩)
        · exact hi.keep rfl rfl (us_n e2) (fun i _ => hpo r' i (Or.inl e2)) hs
      · exact hE.elim
theorem FI.toE {s at_ ho np : Nat → Int} {w : Nat → Prop} {pp : Nat → Nat → Int} {E E' : Nat → Prop} (h : FI s w at_ ho np pp E) (hE : ∀ q, q < 400 → E q → E' q) : FI s w at_ ho np pp E' := ⟨h.1, fun q hq h0 => (h.2 q hq h0).imp id (hE q hq)⟩
/-- what lies outside the things, and what isn't said of rows that aren't laid, is free -/
theorem FI.congr {s s' at_ ho np at' ho' np' : Nat → Int} {w w' : Nat → Prop} {pp pp' : Nat → Nat → Int} {E : Nat → Prop} (h : FI s w at_ ho np pp E) (hs : ∀ q, q < 400 → s' (363 + q) = s (363 + q)) (hw : ∀ r, r < 30 → (w' r ↔ w r)) (he : ∀ r, r < 30 → w r → at' r = at_ r ∧ ho' r = ho r ∧ np' r = np r ∧ ∀ i : Nat, (i : Int) < np r → pp' r i = pp r i) : FI s' w' at' ho' np' pp' E := by
  refine ⟨fun r hr hw' => ?_, fun q hq h0 => ?_⟩
  · have h1 := (hw r hr).mp hw'
    obtain ⟨e1, e2, e3, e4⟩ := he r hr h1
    exact (h.own hr h1).keep hr e1 e2 e3 e4 (fun q hq _ => hs q hq)
  · rw [hs q hq] at h0
    rcases h.2 q hq h0 with ⟨r', hr', hw', hi⟩ | hE
    · obtain ⟨e1, e2, e3, e4⟩ := he r' hr' hw'
      exact Or.inl ⟨r', hr', (hw r' hr').mpr hw', hi.keep e1 e2 e3 e4 (hs q hq)⟩
    · exact Or.inr hE
