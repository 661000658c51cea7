/-! THE ABSTRACT STATE: blocks of cells that lie side by side from an address on; what they hold are integers -/
abbrev Blk : Type := Nat → Nat → Int
abbrev Gt : Type := va_G × ClassId × ClassId × ClassId
abbrev Lay : Type := Nat → (Nat → Int) → va_E
abbrev inR (a : Int) : Prop := -2147483648 ≤ a ∧ a ≤ 2147483647
abbrev vI (a : Int) : Value := .int (Int32.ofInt a)
def Rg (σ : Blk) : Prop := ∀ c j, inR (σ c j)
def up2 (σ : Blk) (c k : Nat) (v : Int) : Blk := fun i j => if i = c ∧ j = k then v else σ i j
theorem Rg_up {σ : Blk} {c k : Nat} {v : Int} (h : Rg σ) (hv : inR v) : Rg (up2 σ c k v) := by
  intro i j
  unfold up2
  split
  · exact hv
  · exact h i j
theorem up2_ne {σ : Blk} {c k i : Nat} {v : Int} (h : i ≠ c) : up2 σ c k v i = σ i := by
  funext j
  simp [up2, h]
theorem up2_at {σ : Blk} {c k : Nat} {v : Int} : up2 σ c k v c = fun j => if j = k then v else σ c j := by
  funext j
  simp [up2]
theorem i32_of {a : Int} (h : inR a) : (Int32.ofInt a).toInt = a := Int32.toInt_ofInt_of_le (by omega) (by omega)
theorem i32_to (x : Int32) : Int32.ofInt x.toInt = x := Int32.ofInt_toInt x
theorem i32_in (x : Int32) : inR x.toInt := ⟨by have := Int32.le_toInt x; omega, by have := Int32.toInt_lt x; omega⟩
theorem inR_c (a : Int) (h : (decide (-2147483648 ≤ a) && decide (a ≤ 2147483647)) = true) : inR a := by
  simp only [Bool.and_eq_true, decide_eq_true_eq] at h
  exact h
theorem i32_lt {a b : Int} (ha : inR a) (hb : inR b) : Int32.ofInt a < Int32.ofInt b ↔ a < b := by
  rw [Int32.lt_iff_toInt_lt, i32_of ha, i32_of hb]
theorem i32_le {a b : Int} (ha : inR a) (hb : inR b) : Int32.ofInt a ≤ Int32.ofInt b ↔ a ≤ b := by
  rw [Int32.le_iff_toInt_le, i32_of ha, i32_of hb]
theorem i32_eq {a b : Int} (ha : inR a) (hb : inR b) : Int32.ofInt a = Int32.ofInt b ↔ a = b := by
  rw [← Int32.toInt_inj, i32_of ha, i32_of hb]
theorem i32_nat {a : Int} (ha : inR a) : (Int32.ofInt a).toNatClampNeg = a.toNat := by
  show ((Int32.ofInt a).toInt).toNat = a.toNat
  rw [i32_of ha]
theorem i32_vin {a : Int} {n : Nat} (h0 : 0 ≤ a) (h1 : a < n) (hn : n ≤ 2147483647) : vp_in (Int32.ofInt a) n := by
  rw [vp_in_iff, i32_of ⟨by omega, by omega⟩]
  exact ⟨h0, h1⟩
/-! the operations of the pictures of methods: none where the machine would throw, or an int would not fit -/
def ck (a : Int) : Option Int := if inR a then some a else none
def ckB (a : Int) : Option Int := if a = 0 ∨ a = 1 then some a else none
def ld (σ : Blk) (c n : Nat) (i : Int) : Option Int := if 0 ≤ i ∧ i < (n : Int) then some (σ c i.toNat) else none
def sw (σ : Blk) (c n : Nat) (i v : Int) : Option Blk := if 0 ≤ i ∧ i < (n : Int) then some (up2 σ c i.toNat v) else none
def dv (a d : Int) : Option Int := if 0 ≤ a then some (a / d) else none
def rm_ (a d : Int) : Option Int := if 0 ≤ a then some (a % d) else none
def jp {γ δ : Type} (K : γ) (f : γ → δ) : δ := f K
def iand (a b : Int) : Int := (Int32.ofInt a &&& Int32.ofInt b).toInt
def iorr (a b : Int) : Int := (Int32.ofInt a ||| Int32.ofInt b).toInt
def ishl (a b : Int) : Int := (Int32.ofInt a <<< (Int32.ofInt b &&& 31)).toInt
def ishr (a b : Int) : Int := (Int32.ofInt a >>> (Int32.ofInt b &&& 31)).toInt
def imin (a b : Int) : Int := if b < a then b else a
def imax (a b : Int) : Int := if a < b then b else a
def i2l (a : Int) : Int64 := (Int32.ofInt a).toInt64
def l2i (x : Int64) : Int := x.toInt32.toInt
def lushr (x : Int64) (a : Int) : Int64 := (x.toUInt64 >>> ((Int32.ofInt a).toInt64.toUInt64 &&& Int64.toUInt64 63)).toInt64
def lcmp (x y : Int64) : Int := (lg_cmp x y).toInt
theorem lcmp_in (x y : Int64) : inR (lcmp x y) := i32_in _
theorem imin_in {a b : Int} (ha : inR a) (hb : inR b) : inR (imin a b) := by
  unfold imin
  split <;> assumption
theorem imax_in {a b : Int} (ha : inR a) (hb : inR b) : inR (imax a b) := by
  unfold imax
  split <;> assumption
theorem Option_bind_some {α β : Type} {x : Option α} {f : α → Option β} {y : β} (h : x.bind f = some y) : ∃ a, x = some a ∧ f a = some y := Option.bind_eq_some_iff.mp h
/-- a block: cell i of it is what 'lay i' makes of row i -/
def Bk (G : Gt) (lay : Lay) (N b : Nat) (σ : Blk) (H : Heap) : Prop := ∀ i, i < N → va_at G.1 vwCl (b + i, lay i (σ i)) H
def KK (G : Gt) (U : State) : Prop := va_K G.1 vwCl [(G.2.1, .int), (G.2.2.1, .object RX7), (G.2.2.2, .object RX0), (G.1.1 7, .long)] U
theorem KK.moved {G : Gt} {u U : State} (hvm : u.vm.Alike U.vm) (h : KK G u) : KK G U := va_K.moved hvm h
/-- the words of nest mates' private members -/
def NW (U : State) : Prop := ∀ w ∈ nwl, va_Nw w U
theorem NW.same {u U : State} (h : u.vm = U.vm) (q : NW u) : NW U := fun w hw => by
  obtain ⟨a, i, x, z, rfl⟩ := nwl_form w hw
  exact va_Nw.same rfl h (q _ hw)
theorem NW.warm {u U : State} (h : u.WarmedH U.vm) (q : NW u) : NW U := fun w hw => by
  obtain ⟨a, i, x, z, rfl⟩ := nwl_form w hw
  exact va_Nw.warmM h (q _ hw)
/-- the class rows, which array classes are there to be made, the nest mates' words -/
def KA (G : Gt) (U : State) : Prop := KK G U ∧ (va_AO RX0 U ∧ va_AO RX7 U) ∧ NW U
theorem KA.same {G : Gt} {u U : State} (hvm : u.vm.Alike U.vm) (h : u.vm = U.vm) (q : KA G u) : KA G U := ⟨q.1.moved hvm, ⟨va_AO.moved hvm q.2.1.1, va_AO.moved hvm q.2.1.2⟩, q.2.2.same h⟩
theorem KA.warm {G : Gt} {u U : State} (hW : u.WarmedH U.vm) (q : KA G u) : KA G U := ⟨q.1.moved hW.alike, ⟨va_AO.moved hW.alike q.2.1.1, va_AO.moved hW.alike q.2.1.2⟩, q.2.2.warm hW⟩
/-- cell i is an array of n ints -/
def isA (G : Gt) (lay : Lay) (i n : Nat) : Prop := n ≤ 2147483647 ∧ ∀ d, lay i d = .inl (G.2.1, (n, .inl (fun j => Int32.ofInt (d j))))
/-- cell i is an object of class ci, its fields fs -/
def isO (lay : Lay) (i ci : Nat) (fs : (Nat → Int) → List Value) : Prop := ∀ d, lay i d = .inr (ci, fs d)
/-- cell i is an array of n rows, the cells w, w + 3 .. -/
def isQ (G : Gt) (lay : Lay) (b i n w : Nat) : Prop := n ≤ 2147483647 ∧ ∀ d, lay i d = .inl (G.2.2.1, (n, .inr (.inr (.inr (.inr (fun j => if j < n then some (b + (w + 3 * j)) else none))))))
/-- which cells a method on the block may change -/
def Ab (b N : Nat) : Nat → Prop := fun q => b ≤ q ∧ q < b + N
/-- a world in which the block lies -/
def Wd (G : Gt) (lay : Lay) (N b : Nat) (I : Blk → Heap → Prop) : Prop := (∀ σ H, I σ H → Bk G lay N b σ H) ∧ ∀ σ σ' H H1, I σ H → Bk G lay N b σ' H1 → H1.size = H.size → (∀ q, q < b ∨ b + N ≤ q → H1[q]? = H[q]?) → I σ' H1
theorem Wd.set {G : Gt} {lay : Lay} {N b : Nat} {I : Blk → Heap → Prop} (hI : Wd G lay N b I) {σ : Blk} {H H1 : Heap} {c k : Nat} {v : Int} (h : I σ H) (hc : c < N) (hz : H1.size = H.size) (ho : ∀ q, q ≠ b + c → H1[q]? = H[q]?) (hcell : va_at G.1 vwCl (b + c, lay c (up2 σ c k v c)) H1) : I (up2 σ c k v) H1 := by
  refine hI.2 σ _ H H1 h (fun i hi => ?_) hz (fun q hq => ho q (by omega))
  by_cases e : i = c
  · subst e
    exact hcell
  · rw [up2_ne e]
    exact (hI.1 σ H h i hi).kept (ho (b + i) (by omega))
def Qm (po : Option Value → Heap → Prop) (A : Nat → Prop) : Array Value → State → Outcome → State → Prop := fun _ st oc t => (∃ v, oc = .returned v ∧ po v t.heap) ∧ va_F A st t
