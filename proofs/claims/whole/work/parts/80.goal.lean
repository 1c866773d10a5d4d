/-! WHAT IS LEFT: the small machine answers 1 on every script -/
theorem mj_goal (L : Nat) (xs : Nat → Int32) (hL : L ≤ 3072) : ∃ h' : mjS, mjEv 263 12 0 (mjEnt 263 [.ref 1]) [] (mjH0 L xs) = some (.int 1, h') ∧ mX h' ≤ 600004 ∧ mZ h' ≤ 7302250 := by
  sorry
