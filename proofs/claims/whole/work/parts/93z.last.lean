/-! the pure part: the last -/
theorem cs_swap {n : Nat} (hn : 1000 ≤ n) : CS (f_C_swap n) (f_M_swap n) := by
  sorry
