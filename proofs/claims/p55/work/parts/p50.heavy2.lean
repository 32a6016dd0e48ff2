def hvB (a : Nat → Nat) (x : Int32) (j : Nat) : Bool := decide (a (76 + j) ≠ 2) && decide (nI (rkN a j) = x)
def hvR (a : Nat → Nat) (x : Int32) : Int32 ⊕ Unit := fnd (hvB a x) (fun j => .inl (nI j)) (.inr ()) 0 (a 36)
