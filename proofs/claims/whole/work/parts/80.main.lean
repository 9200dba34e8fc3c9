/-- the pure theorem: on every script the law's program answers 1 -/
theorem p_main (L : Nat) (xs : Nat → Int32) (hL : L ≤ 192) : ∃ σ' : cH, pL_law 2 (c_s0 L xs) = some (1, σ') := by
  sorry
