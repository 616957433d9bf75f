theorem law_true (L : Nat) (xs : Nat → Int32) (hL : L ≤ 4096) : B_W_law_18 L xs FU (0 : Int32) (lib0, mod0) = some 1 := sorry
