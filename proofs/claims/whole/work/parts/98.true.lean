theorem main_true (xs : Nat → Int32) {L : Nat} (hL : L ≤ 2048) : f_main xs L = some 1 := sorry
