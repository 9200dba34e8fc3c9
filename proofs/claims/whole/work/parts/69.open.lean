/-! pairs that are still owed -/
theorem pr_congress (L : Nat) (xs : Nat → Int32) (hL : L ≤ 192) : Pr L xs (pX9_congress 3) (pX10_congress 137) := sorry
theorem pr_swaps (L : Nat) (xs : Nat → Int32) (hL : L ≤ 192) (x : Int32) : Pr L xs (pX9_swaps 3 x) (pX10_swaps 137 x) := sorry
