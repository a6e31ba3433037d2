theorem cs_order {n : Nat} {X : Int32} (hn : 1000 ≤ n) : CS (f_C_order n X) (f_M_order n X) := by
  sorry
theorem cs_swap {n : Nat} (hn : 1000 ≤ n) : CS (f_C_swap n) (f_M_swap n) := by
  sorry
