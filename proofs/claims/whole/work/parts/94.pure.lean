theorem pure_main {L : Nat} (hL : L ≤ 3072) (xs : Nat → Int32) : ∃ (n : Nat) (s1 sM : mb_T), f_C_init n mz_0 = some s1 ∧ s1.2.2.2.2 = (fun _ => false) ∧ f_M_init n (mz_M s1) = some sM ∧ f_L_loop n L xs 600 0 sM = some () := by
  sorry
