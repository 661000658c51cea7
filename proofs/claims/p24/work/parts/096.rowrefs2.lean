section ROWREFS2
variable {p : Program} {l : Launch} {e : Env} {R : Room} {s : State} {m : MethodId} {args : Array Value} {below : List Frame} {meth : Method} {c : Code}
variable {cc : ByteArray} {nL : Nat} {own : String}
variable {α β : Type} {A : Nat → Prop} {Q : α → State → Prop} {k n : Nat} {I : Heap → Prop} {pc : Nat} {L L' : List (Nat × Value)} {st : List Value} {kk : Option α}
theorem s_aloadR (C : Cx p s m args meth c cc nL own) {i b : Nat} {r : Int} (hd : decode cc pc = .ok (.aload i, 2)) (q : Nat) (hl : L[q]? = some (i, rn b r)) (h : Sim p l e R s m args below meth c nL A Q k n I (pc + 2) L (rn b r :: st) kk) : Sim p l e R s m args below meth c nL A Q k n I pc L st kk := fun x hx H locs ls hI hS hL => by
  match r, hl, h with
  | .ofNat _, hl, h => exact lv_aload C.1 C.2.1 hd (lv_at hL q hl) (h x hx H locs ls hI hS hL)
  | .negSucc _, hl, h => exact lv_aloadN C.1 C.2.1 hd (lv_at hL q hl) (h x hx H locs ls hI hS hL)
theorem s_astoreR (C : Cx p s m args meth c cc nL own) {i b : Nat} {r : Int} (hd : decode cc pc = .ok (.astore i, 2)) (hn : i < nL) (L1 : Value → List (Nat × Value)) (hl : ∀ v : Value, (i, v) :: L.filter (fun q => !(q.1 == i) && !(q.1 + 1 == i && q.2.category == 2)) = L1 v) (h : Sim p l e R s m args below meth c nL A Q k n I (pc + 2) (L1 (rn b r)) st kk) : Sim p l e R s m args below meth c nL A Q k n I pc L (rn b r :: st) kk := fun x hx H locs ls hI hS hL => by
  match r, h with
  | .ofNat _, h => exact lv_astore C.1 C.2.1 hd hL hn (hl _) (fun ls' hL' => h x hx H locs ls' hI hS hL')
  | .negSucc _, h => exact lv_astoreN C.1 C.2.1 hd hL hn (hl _) (fun ls' hL' => h x hx H locs ls' hI hS hL')
end ROWREFS2
