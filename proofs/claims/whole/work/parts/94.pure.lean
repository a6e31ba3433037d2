/-! the pure part: every run of calls -/
theorem srI {β : Type} {L i : Nat} {xs : Nat → Int32} {c : Int32 → Option β} (h : i < L) (hL : L < 2 ^ 31) : mb_sr L xs (nI i) c = c (xs i) := by
  unfold mb_sr
  rw [if_neg (nI_in h hL), nI_clamp (by omega)]
section WA
variable {n L j : Nat} {xs : Nat → Int32} {k : Int32 → mb_T → Option Unit} {s : mb_T}
theorem lc0 (hn : 1000 ≤ n) (R : Rel s) (hj : j + 6 ≤ L) (hL : L ≤ 3072) : ∃ s2, Rel s2 ∧ f_L_c0 n L xs k (nI j) s = k (nI (j + 6)) s2 := by
  obtain ⟨r, s1, s2, e1, e2, e3⟩ := cs_row (n := n) (X := xs (j + 1)) (Y := xs (j + 2)) (by omega) s R
  refine ⟨s2, e3, ?_⟩
  unfold f_L_c0
  rw [nI_1, nI_2a, srI (by omega) (by omega), srI (by omega) (by omega), e1, clS, srI (by omega) (by omega), srI (by omega) (by omega), e2, clS, if_pos rfl, nI_6]
theorem lc1 (hn : 1000 ≤ n) (R : Rel s) (hj : j + 6 ≤ L) (hL : L ≤ 3072) : ∃ s2, Rel s2 ∧ f_L_c1 n L xs k (nI j) s = k (nI (j + 6)) s2 := by
  obtain ⟨r, s1, s2, e1, e2, e3⟩ := cs_lay (n := n) (X := xs (j + 1)) (Y := xs (j + 2)) (V := xs (j + 3)) s R
  refine ⟨s2, e3, ?_⟩
  unfold f_L_c1
  rw [nI_1, nI_2a, nI_3a, srI (by omega) (by omega), srI (by omega) (by omega), srI (by omega) (by omega), e1, clS, srI (by omega) (by omega), srI (by omega) (by omega), srI (by omega) (by omega), e2, clS, if_pos rfl, nI_6]
theorem lc2 (hn : 1000 ≤ n) (R : Rel s) (hj : j + 6 ≤ L) (hL : L ≤ 3072) : ∃ s2, Rel s2 ∧ f_L_c2 n L xs k (nI j) s = k (nI (j + 6)) s2 := by
  obtain ⟨r, s1, s2, e1, e2, e3⟩ := cs_at (n := n) (X := xs (j + 1)) (Y := xs (j + 2)) s R
  refine ⟨s2, e3, ?_⟩
  unfold f_L_c2
  rw [nI_1, nI_2a, srI (by omega) (by omega), srI (by omega) (by omega), e1, clS, srI (by omega) (by omega), srI (by omega) (by omega), e2, clS, if_pos rfl, nI_6]
theorem lc3 (hn : 1000 ≤ n) (R : Rel s) (hj : j + 6 ≤ L) (hL : L ≤ 3072) : ∃ s2, Rel s2 ∧ f_L_c3 n L xs k (nI j) s = k (nI (j + 6)) s2 := by
  obtain ⟨r, s1, s2, e1, e2, e3⟩ := cs_tear (n := n) (X := xs (j + 1)) s R
  refine ⟨s2, e3, ?_⟩
  unfold f_L_c3
  rw [nI_1, srI (by omega) (by omega), e1, clS, srI (by omega) (by omega), e2, clS, if_pos rfl, nI_6]
theorem lc4 (hn : 1000 ≤ n) (R : Rel s) (hj : j + 6 ≤ L) (hL : L ≤ 3072) : ∃ s2, Rel s2 ∧ f_L_c4 n L xs k (nI j) s = k (nI (j + 6)) s2 := by
  obtain ⟨r, s1, s2, e1, e2, e3⟩ := cs_copy (n := n) (X := xs (j + 1)) (U := xs (j + 2)) (Y := xs (j + 3)) (T := xs (j + 4)) (V := xs (j + 5)) (by omega) s R
  refine ⟨s2, e3, ?_⟩
  unfold f_L_c4
  rw [nI_1, nI_2a, nI_3a, nI_4a, nI_5, srI (by omega) (by omega), srI (by omega) (by omega), srI (by omega) (by omega), srI (by omega) (by omega), srI (by omega) (by omega), e1, clS, srI (by omega) (by omega), srI (by omega) (by omega), srI (by omega) (by omega), srI (by omega) (by omega), srI (by omega) (by omega), e2, clS, if_pos rfl, nI_6]
theorem lc5 (hn : 1000 ≤ n) (R : Rel s) (hj : j + 6 ≤ L) (hL : L ≤ 3072) : ∃ s2, Rel s2 ∧ f_L_c5 n L xs k (nI j) s = k (nI (j + 6)) s2 := by
  obtain ⟨r, s1, s2, e1, e2, e3⟩ := cs_mean (n := n) (X := xs (j + 1)) (by omega) s R
  refine ⟨s2, e3, ?_⟩
  unfold f_L_c5
  rw [nI_1, srI (by omega) (by omega), e1, clS, srI (by omega) (by omega), e2, clS, if_pos rfl, nI_6]
theorem lc6 (hn : 1000 ≤ n) (R : Rel s) (hj : j + 6 ≤ L) (hL : L ≤ 3072) : ∃ s2, Rel s2 ∧ f_L_c6 n L xs k (nI j) s = k (nI (j + 6)) s2 := by
  obtain ⟨r, s1, s2, e1, e2, e3⟩ := cs_text (n := n) (X := xs (j + 1)) (Y := xs (j + 2)) (by omega) s R
  refine ⟨s2, e3, ?_⟩
  unfold f_L_c6
  rw [nI_1, nI_2a, srI (by omega) (by omega), srI (by omega) (by omega), e1, clS, srI (by omega) (by omega), srI (by omega) (by omega), e2, clS, if_pos rfl, nI_6]
theorem lc7 (hn : 1000 ≤ n) (R : Rel s) (hj : j + 6 ≤ L) (hL : L ≤ 3072) : ∃ s2, Rel s2 ∧ f_L_c7 n L xs k (nI j) s = k (nI (j + 6)) s2 := by
  obtain ⟨r, s1, s2, e1, e2, e3⟩ := cs_put (n := n) (X := xs (j + 1)) (Y := xs (j + 2)) (V := xs (j + 3)) s R
  refine ⟨s2, e3, ?_⟩
  unfold f_L_c7
  rw [nI_1, nI_2a, nI_3a, srI (by omega) (by omega), srI (by omega) (by omega), srI (by omega) (by omega), e1, clS, srI (by omega) (by omega), srI (by omega) (by omega), srI (by omega) (by omega), e2, clS, if_pos rfl, nI_6]
theorem lc8 (hn : 1000 ≤ n) (R : Rel s) (hj : j + 6 ≤ L) (hL : L ≤ 3072) : ∃ s2, Rel s2 ∧ f_L_c8 n L xs k (nI j) s = k (nI (j + 6)) s2 := by
  obtain ⟨r, s1, s2, e1, e2, e3⟩ := cs_fault (n := n) (X := xs (j + 1)) (by omega) s R
  refine ⟨s2, e3, ?_⟩
  unfold f_L_c8
  rw [nI_1, srI (by omega) (by omega), e1, clS, srI (by omega) (by omega), e2, clS, if_pos rfl, nI_6]
theorem lc9 (hn : 1000 ≤ n) (R : Rel s) (hj : j + 6 ≤ L) (hL : L ≤ 3072) : ∃ s2, Rel s2 ∧ f_L_c9 n L xs k (nI j) s = k (nI (j + 6)) s2 := by
  obtain ⟨r, s1, s2, e1, e2, e3⟩ := cs_cave (n := n) (X := xs (j + 1)) (by omega) s R
  refine ⟨s2, e3, ?_⟩
  unfold f_L_c9
  rw [nI_1, srI (by omega) (by omega), e1, clS, srI (by omega) (by omega), e2, clS, if_pos rfl, nI_6]
theorem lc10 (hn : 1000 ≤ n) (R : Rel s) (hj : j + 6 ≤ L) (hL : L ≤ 3072) : ∃ s2, Rel s2 ∧ f_L_c10 n L xs k (nI j) s = k (nI (j + 6)) s2 := by
  obtain ⟨r, s1, s2, e1, e2, e3⟩ := cs_person (n := n) (X := xs (j + 1)) (Y := xs (j + 2)) (by omega) s R
  refine ⟨s2, e3, ?_⟩
  unfold f_L_c10
  rw [nI_1, nI_2a, srI (by omega) (by omega), srI (by omega) (by omega), e1, clS, srI (by omega) (by omega), srI (by omega) (by omega), e2, clS, if_pos rfl, nI_6]
theorem lc11 (hn : 1000 ≤ n) (R : Rel s) (hj : j + 6 ≤ L) (hL : L ≤ 3072) : ∃ s2, Rel s2 ∧ f_L_c11 n L xs k (nI j) s = k (nI (j + 6)) s2 := by
  obtain ⟨r, s1, s2, e1, e2, e3⟩ := cs_mark (n := n) (X := xs (j + 1)) (Y := xs (j + 2)) (by omega) s R
  refine ⟨s2, e3, ?_⟩
  unfold f_L_c11
  rw [nI_1, nI_2a, srI (by omega) (by omega), srI (by omega) (by omega), e1, clS, srI (by omega) (by omega), srI (by omega) (by omega), e2, clS, if_pos rfl, nI_6]
theorem lc12 (hn : 1000 ≤ n) (R : Rel s) (hj : j + 6 ≤ L) (hL : L ≤ 3072) : ∃ s2, Rel s2 ∧ f_L_c12 n L xs k (nI j) s = k (nI (j + 6)) s2 := by
  obtain ⟨r, s1, s2, e1, e2, e3⟩ := cs_law (n := n) (X := xs (j + 1)) s R
  refine ⟨s2, e3, ?_⟩
  unfold f_L_c12
  rw [nI_1, srI (by omega) (by omega), e1, clS, srI (by omega) (by omega), e2, clS, if_pos rfl, nI_6]
theorem lc13 (hn : 1000 ≤ n) (R : Rel s) (hj : j + 6 ≤ L) (hL : L ≤ 3072) : ∃ s2, Rel s2 ∧ f_L_c13 n L xs k (nI j) s = k (nI (j + 6)) s2 := by
  obtain ⟨r, s1, s2, e1, e2, e3⟩ := cs_oil (n := n) (X := xs (j + 1)) s R
  refine ⟨s2, e3, ?_⟩
  unfold f_L_c13
  rw [nI_1, srI (by omega) (by omega), e1, clS, srI (by omega) (by omega), e2, clS, if_pos rfl, nI_6]
theorem lc14 (hn : 1000 ≤ n) (R : Rel s) (hj : j + 6 ≤ L) (hL : L ≤ 3072) : ∃ s2, Rel s2 ∧ f_L_c14 n L xs k (nI j) s = k (nI (j + 6)) s2 := by
  obtain ⟨r, s1, s2, e1, e2, e3⟩ := cs_fear (n := n) (X := xs (j + 1)) (V := xs (j + 2)) s R
  refine ⟨s2, e3, ?_⟩
  unfold f_L_c14
  rw [nI_1, nI_2a, srI (by omega) (by omega), srI (by omega) (by omega), e1, clS, srI (by omega) (by omega), srI (by omega) (by omega), e2, clS, if_pos rfl, nI_6]
theorem lc15 (hn : 1000 ≤ n) (R : Rel s) (hj : j + 6 ≤ L) (hL : L ≤ 3072) : ∃ s2, Rel s2 ∧ f_L_c15 n L xs k (nI j) s = k (nI (j + 6)) s2 := by
  obtain ⟨r, s1, s2, e1, e2, e3⟩ := cs_minutes (n := n) (X := xs (j + 1)) (by omega) s R
  refine ⟨s2, e3, ?_⟩
  unfold f_L_c15
  rw [nI_1, srI (by omega) (by omega), e1, clS, srI (by omega) (by omega), e2, clS, if_pos rfl, nI_6]
theorem lc16 (hn : 1000 ≤ n) (R : Rel s) (hj : j + 6 ≤ L) (hL : L ≤ 3072) : ∃ s2, Rel s2 ∧ f_L_c16 n L xs k (nI j) s = k (nI (j + 6)) s2 := by
  obtain ⟨r, s1, s2, e1, e2, e3⟩ := cs_hand (n := n) (X := xs (j + 1)) (by omega) s R
  refine ⟨s2, e3, ?_⟩
  unfold f_L_c16
  rw [nI_1, srI (by omega) (by omega), e1, clS, srI (by omega) (by omega), e2, clS, if_pos rfl, nI_6]
theorem lc17 (hn : 1000 ≤ n) (R : Rel s) (hj : j + 6 ≤ L) (hL : L ≤ 3072) : ∃ s2, Rel s2 ∧ f_L_c17 n L xs k (nI j) s = k (nI (j + 6)) s2 := by
  obtain ⟨r, s1, s2, e1, e2, e3⟩ := cs_next (n := n)  (by omega) s R
  refine ⟨s2, e3, ?_⟩
  unfold f_L_c17
  rw [e1, clS, e2, clS, if_pos rfl, nI_6]
theorem lc18 (hn : 1000 ≤ n) (R : Rel s) (hj : j + 6 ≤ L) (hL : L ≤ 3072) : ∃ s2, Rel s2 ∧ f_L_c18 n L xs k (nI j) s = k (nI (j + 6)) s2 := by
  obtain ⟨r, s1, s2, e1, e2, e3⟩ := cs_had (n := n) (X := xs (j + 1)) s R
  refine ⟨s2, e3, ?_⟩
  unfold f_L_c18
  rw [nI_1, srI (by omega) (by omega), e1, clS, srI (by omega) (by omega), e2, clS, if_pos rfl, nI_6]
theorem lc19 (hn : 1000 ≤ n) (R : Rel s) (hj : j + 6 ≤ L) (hL : L ≤ 3072) : ∃ s2, Rel s2 ∧ f_L_c19 n L xs k (nI j) s = k (nI (j + 6)) s2 := by
  obtain ⟨r, s1, s2, e1, e2, e3⟩ := cs_undo (n := n) (X := xs (j + 1)) (by omega) s R
  refine ⟨s2, e3, ?_⟩
  unfold f_L_c19
  rw [nI_1, srI (by omega) (by omega), e1, clS, srI (by omega) (by omega), e2, clS, if_pos rfl, nI_6]
theorem lc20 (hn : 1000 ≤ n) (R : Rel s) (hj : j + 6 ≤ L) (hL : L ≤ 3072) : ∃ s2, Rel s2 ∧ f_L_c20 n L xs k (nI j) s = k (nI (j + 6)) s2 := by
  obtain ⟨r, s1, s2, e1, e2, e3⟩ := cs_over (n := n)  (by omega) s R
  refine ⟨s2, e3, ?_⟩
  unfold f_L_c20
  rw [e1, clS, e2, clS, if_pos rfl, nI_6]
theorem lc21 (hn : 1000 ≤ n) (R : Rel s) (hj : j + 6 ≤ L) (hL : L ≤ 3072) : ∃ s2, Rel s2 ∧ f_L_c21 n L xs k (nI j) s = k (nI (j + 6)) s2 := by
  obtain ⟨r, s1, s2, e1, e2, e3⟩ := cs_story (n := n) (X := xs (j + 1)) (by omega) s R
  refine ⟨s2, e3, ?_⟩
  unfold f_L_c21
  rw [nI_1, srI (by omega) (by omega), e1, clS, srI (by omega) (by omega), e2, clS, if_pos rfl, nI_6]
theorem lc22 (hn : 1000 ≤ n) (R : Rel s) (hj : j + 6 ≤ L) (hL : L ≤ 3072) : ∃ s2, Rel s2 ∧ f_L_c22 n L xs k (nI j) s = k (nI (j + 6)) s2 := by
  obtain ⟨r, s1, s2, e1, e2, e3⟩ := cs_song (n := n) (X := xs (j + 1)) (by omega) s R
  refine ⟨s2, e3, ?_⟩
  unfold f_L_c22
  rw [nI_1, srI (by omega) (by omega), e1, clS, srI (by omega) (by omega), e2, clS, if_pos rfl, nI_6]
theorem lc23 (hn : 1000 ≤ n) (R : Rel s) (hj : j + 6 ≤ L) (hL : L ≤ 3072) : ∃ s2, Rel s2 ∧ f_L_c23 n L xs k (nI j) s = k (nI (j + 6)) s2 := by
  obtain ⟨r, s1, s2, e1, e2, e3⟩ := cs_keep (n := n) (X := xs (j + 1)) (by omega) s R
  refine ⟨s2, e3, ?_⟩
  unfold f_L_c23
  rw [nI_1, srI (by omega) (by omega), e1, clS, srI (by omega) (by omega), e2, clS, if_pos rfl, nI_6]
theorem lc24 (hn : 1000 ≤ n) (R : Rel s) (hj : j + 6 ≤ L) (hL : L ≤ 3072) : ∃ s2, Rel s2 ∧ f_L_c24 n L xs k (nI j) s = k (nI (j + 6)) s2 := by
  obtain ⟨r, s1, s2, e1, e2, e3⟩ := cs_on (n := n) (X := xs (j + 1)) (by omega) s R
  refine ⟨s2, e3, ?_⟩
  unfold f_L_c24
  rw [nI_1, srI (by omega) (by omega), e1, clS, srI (by omega) (by omega), e2, clS, if_pos rfl, nI_6]
theorem lc25 (hn : 1000 ≤ n) (R : Rel s) (hj : j + 6 ≤ L) (hL : L ≤ 3072) : ∃ s2, Rel s2 ∧ f_L_c25 n L xs k (nI j) s = k (nI (j + 6)) s2 := by
  obtain ⟨r, s1, s2, e1, e2, e3⟩ := cs_holds (n := n) (X := xs (j + 1)) (by omega) s R
  refine ⟨s2, e3, ?_⟩
  unfold f_L_c25
  rw [nI_1, srI (by omega) (by omega), e1, clS, srI (by omega) (by omega), e2, clS, if_pos rfl, nI_6]
theorem lc26 (hn : 1000 ≤ n) (R : Rel s) (hj : j + 6 ≤ L) (hL : L ≤ 3072) : ∃ s2, Rel s2 ∧ f_L_c26 n L xs k (nI j) s = k (nI (j + 6)) s2 := by
  obtain ⟨r, s1, s2, e1, e2, e3⟩ := cs_best (n := n)  (by omega) s R
  refine ⟨s2, e3, ?_⟩
  unfold f_L_c26
  rw [e1, clS, e2, clS, if_pos rfl, nI_6]
theorem lc27 (hn : 1000 ≤ n) (R : Rel s) (hj : j + 6 ≤ L) (hL : L ≤ 3072) : ∃ s2, Rel s2 ∧ f_L_c27 n L xs k (nI j) s = k (nI (j + 6)) s2 := by
  obtain ⟨r, s1, s2, e1, e2, e3⟩ := cs_rest (n := n)  (by omega) s R
  refine ⟨s2, e3, ?_⟩
  unfold f_L_c27
  rw [e1, clS, e2, clS, if_pos rfl, nI_6]
theorem lc28 (hn : 1000 ≤ n) (R : Rel s) (hj : j + 6 ≤ L) (hL : L ≤ 3072) : ∃ s2, Rel s2 ∧ f_L_c28 n L xs k (nI j) s = k (nI (j + 6)) s2 := by
  obtain ⟨r, s1, s2, e1, e2, e3⟩ := cs_worst (n := n) (X := xs (j + 1)) (by omega) s R
  refine ⟨s2, e3, ?_⟩
  unfold f_L_c28
  rw [nI_1, srI (by omega) (by omega), e1, clS, srI (by omega) (by omega), e2, clS, if_pos rfl, nI_6]
theorem lc29 (hn : 1000 ≤ n) (R : Rel s) (hj : j + 6 ≤ L) (hL : L ≤ 3072) : ∃ s2, Rel s2 ∧ f_L_c29 n L xs k (nI j) s = k (nI (j + 6)) s2 := by
  obtain ⟨r, s1, s2, e1, e2, e3⟩ := cs_often (n := n) (X := xs (j + 1)) (Y := xs (j + 2)) (by omega) s R
  refine ⟨s2, e3, ?_⟩
  unfold f_L_c29
  rw [nI_1, nI_2a, srI (by omega) (by omega), srI (by omega) (by omega), e1, clS, srI (by omega) (by omega), srI (by omega) (by omega), e2, clS, if_pos rfl, nI_6]
theorem lc30 (hn : 1000 ≤ n) (R : Rel s) (hj : j + 6 ≤ L) (hL : L ≤ 3072) : ∃ s2, Rel s2 ∧ f_L_c30 n L xs k (nI j) s = k (nI (j + 6)) s2 := by
  obtain ⟨r, s1, s2, e1, e2, e3⟩ := cs_longest (n := n) (X := xs (j + 1)) (by omega) s R
  refine ⟨s2, e3, ?_⟩
  unfold f_L_c30
  rw [nI_1, srI (by omega) (by omega), e1, clS, srI (by omega) (by omega), e2, clS, if_pos rfl, nI_6]
theorem lc31 (hn : 1000 ≤ n) (R : Rel s) (hj : j + 6 ≤ L) (hL : L ≤ 3072) : ∃ s2, Rel s2 ∧ f_L_c31 n L xs k (nI j) s = k (nI (j + 6)) s2 := by
  obtain ⟨r, s1, s2, e1, e2, e3⟩ := cs_calmest (n := n) (Y := xs (j + 1)) (X := xs (j + 2)) (by omega) s R
  refine ⟨s2, e3, ?_⟩
  unfold f_L_c31
  rw [nI_1, nI_2a, srI (by omega) (by omega), srI (by omega) (by omega), e1, clS, srI (by omega) (by omega), srI (by omega) (by omega), e2, clS, if_pos rfl, nI_6]
theorem lc32 (hn : 1000 ≤ n) (R : Rel s) (hj : j + 6 ≤ L) (hL : L ≤ 3072) : ∃ s2, Rel s2 ∧ f_L_c32 n L xs k (nI j) s = k (nI (j + 6)) s2 := by
  obtain ⟨r, s1, s2, e1, e2, e3⟩ := cs_order (n := n) (X := xs (j + 1)) (by omega) s R
  refine ⟨s2, e3, ?_⟩
  unfold f_L_c32
  rw [nI_1, srI (by omega) (by omega), e1, clS, srI (by omega) (by omega), e2, clS, if_pos rfl, nI_6]
theorem lc33 (hn : 1000 ≤ n) (R : Rel s) (hj : j + 6 ≤ L) (hL : L ≤ 3072) : ∃ s2, Rel s2 ∧ f_L_c33 n L xs k (nI j) s = k (nI (j + 6)) s2 := by
  obtain ⟨r, s1, s2, e1, e2, e3⟩ := cs_swap (n := n)  (by omega) s R
  refine ⟨s2, e3, ?_⟩
  unfold f_L_c33
  rw [e1, clS, e2, clS, if_pos rfl, nI_6]
theorem lc34 (hn : 1000 ≤ n) (R : Rel s) (hj : j + 6 ≤ L) (hL : L ≤ 3072) : ∃ s2, Rel s2 ∧ f_L_c34 n L xs k (nI j) s = k (nI (j + 6)) s2 := by
  obtain ⟨r, s1, s2, e1, e2, e3⟩ := cs_spare (n := n) (X := xs (j + 1)) (by omega) s R
  refine ⟨s2, e3, ?_⟩
  unfold f_L_c34
  rw [nI_1, srI (by omega) (by omega), e1, clS, srI (by omega) (by omega), e2, clS, if_pos rfl, nI_6]
theorem lc35 (hn : 1000 ≤ n) (R : Rel s) (hj : j + 6 ≤ L) (hL : L ≤ 3072) : ∃ s2, Rel s2 ∧ f_L_c35 n L xs k (nI j) s = k (nI (j + 6)) s2 := by
  obtain ⟨r, s1, s2, e1, e2, e3⟩ := cs_teller (n := n)  (by omega) s R
  refine ⟨s2, e3, ?_⟩
  unfold f_L_c35
  rw [e1, clS, e2, clS, if_pos rfl, nI_6]
theorem lc36 (hn : 1000 ≤ n) (R : Rel s) (hj : j + 6 ≤ L) (hL : L ≤ 3072) : ∃ s2, Rel s2 ∧ f_L_c36 n L xs k (nI j) s = k (nI (j + 6)) s2 := by
  obtain ⟨r, s1, s2, e1, e2, e3⟩ := cs_judge (n := n) (X := xs (j + 1)) (by omega) s R
  refine ⟨s2, e3, ?_⟩
  unfold f_L_c36
  rw [nI_1, srI (by omega) (by omega), e1, clS, srI (by omega) (by omega), e2, clS, if_pos rfl, nI_6]
theorem lc37 (hn : 1000 ≤ n) (R : Rel s) (hj : j + 6 ≤ L) (hL : L ≤ 3072) : ∃ s2, Rel s2 ∧ f_L_c37 n L xs k (nI j) s = k (nI (j + 6)) s2 := by
  obtain ⟨r, s1, s2, e1, e2, e3⟩ := cs_liars (n := n) (X := xs (j + 1)) (by omega) s R
  refine ⟨s2, e3, ?_⟩
  unfold f_L_c37
  rw [nI_1, srI (by omega) (by omega), e1, clS, srI (by omega) (by omega), e2, clS, if_pos rfl, nI_6]
theorem lc38 (hn : 1000 ≤ n) (R : Rel s) (hj : j + 6 ≤ L) (hL : L ≤ 3072) : ∃ s2, Rel s2 ∧ f_L_c38 n L xs k (nI j) s = k (nI (j + 6)) s2 := by
  obtain ⟨r, s1, s2, e1, e2, e3⟩ := cs_grows (n := n) (X := xs (j + 1)) (Y := xs (j + 2)) (by omega) s R
  refine ⟨s2, e3, ?_⟩
  unfold f_L_c38
  rw [nI_1, nI_2a, srI (by omega) (by omega), srI (by omega) (by omega), e1, clS, srI (by omega) (by omega), srI (by omega) (by omega), e2, clS, if_pos rfl, nI_6]
theorem lc39 (hn : 1000 ≤ n) (R : Rel s) (hj : j + 6 ≤ L) (hL : L ≤ 3072) : ∃ s2, Rel s2 ∧ f_L_c39 n L xs k (nI j) s = k (nI (j + 6)) s2 := by
  obtain ⟨r, s1, s2, e1, e2, e3⟩ := cs_fears (n := n) (X := xs (j + 1)) (Y := xs (j + 2)) (by omega) s R
  refine ⟨s2, e3, ?_⟩
  unfold f_L_c39
  rw [nI_1, nI_2a, srI (by omega) (by omega), srI (by omega) (by omega), e1, clS, srI (by omega) (by omega), srI (by omega) (by omega), e2, clS, if_pos rfl, nI_6]
theorem lc40 (hn : 1000 ≤ n) (R : Rel s) (hj : j + 6 ≤ L) (hL : L ≤ 3072) : ∃ s2, Rel s2 ∧ f_L_c40 n L xs k (nI j) s = k (nI (j + 6)) s2 := by
  obtain ⟨r, s1, s2, e1, e2, e3⟩ := cs_tell (n := n) (X := xs (j + 1)) (Y := xs (j + 2)) (V := xs (j + 3)) (by omega) s R
  refine ⟨s2, e3, ?_⟩
  unfold f_L_c40
  rw [nI_1, nI_2a, nI_3a, srI (by omega) (by omega), srI (by omega) (by omega), srI (by omega) (by omega), e1, clS, srI (by omega) (by omega), srI (by omega) (by omega), srI (by omega) (by omega), e2, clS, if_pos rfl, nI_6]
theorem lc41 (hn : 1000 ≤ n) (R : Rel s) (hj : j + 6 ≤ L) (hL : L ≤ 3072) : ∃ s2, Rel s2 ∧ f_L_c41 n L xs k (nI j) s = k (nI (j + 6)) s2 := by
  obtain ⟨r, s1, s2, e1, e2, e3⟩ := cs_visit (n := n) (X := xs (j + 1)) (Y := xs (j + 2)) (by omega) s R
  refine ⟨s2, e3, ?_⟩
  unfold f_L_c41
  rw [nI_1, nI_2a, srI (by omega) (by omega), srI (by omega) (by omega), e1, clS, srI (by omega) (by omega), srI (by omega) (by omega), e2, clS, if_pos rfl, nI_6]
theorem lc42 (hn : 1000 ≤ n) (R : Rel s) (hj : j + 6 ≤ L) (hL : L ≤ 3072) : ∃ s2, Rel s2 ∧ f_L_c42 n L xs k (nI j) s = k (nI (j + 6)) s2 := by
  obtain ⟨r, s1, s2, e1, e2, e3⟩ := cs_asked (n := n)  s R
  refine ⟨s2, e3, ?_⟩
  unfold f_L_c42
  rw [e1, clS, e2, clS, if_pos rfl, nI_6]
theorem lc43 (hn : 1000 ≤ n) (R : Rel s) (hj : j + 6 ≤ L) (hL : L ≤ 3072) : ∃ s2, Rel s2 ∧ f_L_c43 n L xs k (nI j) s = k (nI (j + 6)) s2 := by
  obtain ⟨r, s1, s2, e1, e2, e3⟩ := cs_upper (n := n)  (by omega) s R
  refine ⟨s2, e3, ?_⟩
  unfold f_L_c43
  rw [e1, clS, e2, clS, if_pos ((lg_cmp_eq r r).mpr rfl), nI_6]
theorem lc44 (hn : 1000 ≤ n) (R : Rel s) (hj : j + 6 ≤ L) (hL : L ≤ 3072) : ∃ s2, Rel s2 ∧ f_L_c44 n L xs k (nI j) s = k (nI (j + 6)) s2 := by
  obtain ⟨r, s1, s2, e1, e2, e3⟩ := cs_lower (n := n)  (by omega) s R
  refine ⟨s2, e3, ?_⟩
  unfold f_L_c44
  rw [e1, clS, e2, clS, if_pos ((lg_cmp_eq r r).mpr rfl), nI_6]
theorem lc45 (hn : 1000 ≤ n) (R : Rel s) (hj : j + 6 ≤ L) (hL : L ≤ 3072) : ∃ s2, Rel s2 ∧ f_L_c45 n L xs k (nI j) s = k (nI (j + 6)) s2 := by
  obtain ⟨r, s1, s2, e1, e2, e3⟩ := cs_count (n := n) (X := xs (j + 1)) (by omega) s R
  refine ⟨s2, e3, ?_⟩
  unfold f_L_c45
  rw [nI_1, srI (by omega) (by omega), e1, clS, srI (by omega) (by omega), e2, clS, if_pos rfl, nI_6]
theorem lc46 (hn : 1000 ≤ n) (R : Rel s) (hj : j + 6 ≤ L) (hL : L ≤ 3072) : ∃ s2, Rel s2 ∧ f_L_c46 n L xs k (nI j) s = k (nI (j + 6)) s2 := by
  obtain ⟨r, s1, s2, e1, e2, e3⟩ := cs_finding (n := n)  s R
  refine ⟨s2, e3, ?_⟩
  unfold f_L_c46
  rw [e1, clS, e2, clS, if_pos rfl, nI_6]
theorem lc47 (hn : 1000 ≤ n) (R : Rel s) (hj : j + 6 ≤ L) (hL : L ≤ 3072) : ∃ s2, Rel s2 ∧ f_L_c47 n L xs k (nI j) s = k (nI (j + 6)) s2 := by
  obtain ⟨r, s1, s2, e1, e2, e3⟩ := cs_findings (n := n) (X := xs (j + 1)) s R
  refine ⟨s2, e3, ?_⟩
  unfold f_L_c47
  rw [nI_1, srI (by omega) (by omega), e1, clS, srI (by omega) (by omega), e2, clS, if_pos rfl, nI_6]
theorem lc48 (hn : 1000 ≤ n) (R : Rel s) (hj : j + 6 ≤ L) (hL : L ≤ 3072) : ∃ s2, Rel s2 ∧ f_L_c48 n L xs k (nI j) s = k (nI (j + 6)) s2 := by
  obtain ⟨r, s1, s2, e1, e2, e3⟩ := cs_digest (n := n)  (by omega) s R
  refine ⟨s2, e3, ?_⟩
  unfold f_L_c48
  rw [e1, clS, e2, clS, if_pos ((lg_cmp_eq r r).mpr rfl), nI_6]
theorem law_b (hn : 1000 ≤ n) (hL : L ≤ 3072) (R : Rel s) (K : ∀ s2, Rel s2 → j + 6 ≤ L → k (nI (j + 6)) s2 = some ()) (hj : j ≤ L) : f_L_b n L xs k (nI j) s = some () := by
  unfold f_L_b
  have hc : (((Int32.ofNat L) - 6) < nI j) ↔ L < j + 6 := by
    show nI L - nI 6 < nI j ↔ L < j + 6
    by_cases h : 6 ≤ L
    · rw [nI_subN h, nI_ltI (by omega) (by omega)]
      omega
    · constructor
      · intro _; omega
      · intro _
        have hz : nI L - nI 6 < 0 := by
          have : ∀ a, a < 6 → nI a - nI 6 < 0 := by decide +kernel
          exact this L (by omega)
        exact Int32.lt_of_lt_of_le hz (nI_pos' (by omega))
  by_cases hx : L < j + 6
  · rw [if_pos (hc.mpr hx)]
  have hj6 : j + 6 ≤ L := by omega
  rw [if_neg (fun q => hx (hc.mp q)), srI (by omega) (by omega)]
  have fin : ∀ E : Option Unit, (∃ s2, Rel s2 ∧ E = k (nI (j + 6)) s2) → E = some () := by
    rintro E ⟨s2, r2, e2⟩
    rw [e2]; exact K s2 r2 hj6
  by_cases h0 : (xs j &&& 63) = 0
  · rw [if_pos h0]; exact fin _ (lc0 hn R hj6 hL)
  rw [if_neg h0]
  by_cases h1 : (xs j &&& 63) = 1
  · rw [if_pos h1]; exact fin _ (lc1 hn R hj6 hL)
  rw [if_neg h1]
  by_cases h2 : (xs j &&& 63) = 2
  · rw [if_pos h2]; exact fin _ (lc2 hn R hj6 hL)
  rw [if_neg h2]
  by_cases h3 : (xs j &&& 63) = 3
  · rw [if_pos h3]; exact fin _ (lc3 hn R hj6 hL)
  rw [if_neg h3]
  by_cases h4 : (xs j &&& 63) = 4
  · rw [if_pos h4]; exact fin _ (lc4 hn R hj6 hL)
  rw [if_neg h4]
  by_cases h5 : (xs j &&& 63) = 5
  · rw [if_pos h5]; exact fin _ (lc5 hn R hj6 hL)
  rw [if_neg h5]
  by_cases h6 : (xs j &&& 63) = 6
  · rw [if_pos h6]; exact fin _ (lc6 hn R hj6 hL)
  rw [if_neg h6]
  by_cases h7 : (xs j &&& 63) = 7
  · rw [if_pos h7]; exact fin _ (lc7 hn R hj6 hL)
  rw [if_neg h7]
  by_cases h8 : (xs j &&& 63) = 8
  · rw [if_pos h8]; exact fin _ (lc8 hn R hj6 hL)
  rw [if_neg h8]
  by_cases h9 : (xs j &&& 63) = 9
  · rw [if_pos h9]; exact fin _ (lc9 hn R hj6 hL)
  rw [if_neg h9]
  by_cases h10 : (xs j &&& 63) = 10
  · rw [if_pos h10]; exact fin _ (lc10 hn R hj6 hL)
  rw [if_neg h10]
  by_cases h11 : (xs j &&& 63) = 11
  · rw [if_pos h11]; exact fin _ (lc11 hn R hj6 hL)
  rw [if_neg h11]
  by_cases h12 : (xs j &&& 63) = 12
  · rw [if_pos h12]; exact fin _ (lc12 hn R hj6 hL)
  rw [if_neg h12]
  by_cases h13 : (xs j &&& 63) = 13
  · rw [if_pos h13]; exact fin _ (lc13 hn R hj6 hL)
  rw [if_neg h13]
  by_cases h14 : (xs j &&& 63) = 14
  · rw [if_pos h14]; exact fin _ (lc14 hn R hj6 hL)
  rw [if_neg h14]
  by_cases h15 : (xs j &&& 63) = 15
  · rw [if_pos h15]; exact fin _ (lc15 hn R hj6 hL)
  rw [if_neg h15]
  by_cases h16 : (xs j &&& 63) = 16
  · rw [if_pos h16]; exact fin _ (lc16 hn R hj6 hL)
  rw [if_neg h16]
  by_cases h17 : (xs j &&& 63) = 17
  · rw [if_pos h17]; exact fin _ (lc17 hn R hj6 hL)
  rw [if_neg h17]
  by_cases h18 : (xs j &&& 63) = 18
  · rw [if_pos h18]; exact fin _ (lc18 hn R hj6 hL)
  rw [if_neg h18]
  by_cases h19 : (xs j &&& 63) = 19
  · rw [if_pos h19]; exact fin _ (lc19 hn R hj6 hL)
  rw [if_neg h19]
  by_cases h20 : (xs j &&& 63) = 20
  · rw [if_pos h20]; exact fin _ (lc20 hn R hj6 hL)
  rw [if_neg h20]
  by_cases h21 : (xs j &&& 63) = 21
  · rw [if_pos h21]; exact fin _ (lc21 hn R hj6 hL)
  rw [if_neg h21]
  by_cases h22 : (xs j &&& 63) = 22
  · rw [if_pos h22]; exact fin _ (lc22 hn R hj6 hL)
  rw [if_neg h22]
  by_cases h23 : (xs j &&& 63) = 23
  · rw [if_pos h23]; exact fin _ (lc23 hn R hj6 hL)
  rw [if_neg h23]
  by_cases h24 : (xs j &&& 63) = 24
  · rw [if_pos h24]; exact fin _ (lc24 hn R hj6 hL)
  rw [if_neg h24]
  by_cases h25 : (xs j &&& 63) = 25
  · rw [if_pos h25]; exact fin _ (lc25 hn R hj6 hL)
  rw [if_neg h25]
  by_cases h26 : (xs j &&& 63) = 26
  · rw [if_pos h26]; exact fin _ (lc26 hn R hj6 hL)
  rw [if_neg h26]
  by_cases h27 : (xs j &&& 63) = 27
  · rw [if_pos h27]; exact fin _ (lc27 hn R hj6 hL)
  rw [if_neg h27]
  by_cases h28 : (xs j &&& 63) = 28
  · rw [if_pos h28]; exact fin _ (lc28 hn R hj6 hL)
  rw [if_neg h28]
  by_cases h29 : (xs j &&& 63) = 29
  · rw [if_pos h29]; exact fin _ (lc29 hn R hj6 hL)
  rw [if_neg h29]
  by_cases h30 : (xs j &&& 63) = 30
  · rw [if_pos h30]; exact fin _ (lc30 hn R hj6 hL)
  rw [if_neg h30]
  by_cases h31 : (xs j &&& 63) = 31
  · rw [if_pos h31]; exact fin _ (lc31 hn R hj6 hL)
  rw [if_neg h31]
  by_cases h32 : (xs j &&& 63) = 32
  · rw [if_pos h32]; exact fin _ (lc32 hn R hj6 hL)
  rw [if_neg h32]
  by_cases h33 : (xs j &&& 63) = 33
  · rw [if_pos h33]; exact fin _ (lc33 hn R hj6 hL)
  rw [if_neg h33]
  by_cases h34 : (xs j &&& 63) = 34
  · rw [if_pos h34]; exact fin _ (lc34 hn R hj6 hL)
  rw [if_neg h34]
  by_cases h35 : (xs j &&& 63) = 35
  · rw [if_pos h35]; exact fin _ (lc35 hn R hj6 hL)
  rw [if_neg h35]
  by_cases h36 : (xs j &&& 63) = 36
  · rw [if_pos h36]; exact fin _ (lc36 hn R hj6 hL)
  rw [if_neg h36]
  by_cases h37 : (xs j &&& 63) = 37
  · rw [if_pos h37]; exact fin _ (lc37 hn R hj6 hL)
  rw [if_neg h37]
  by_cases h38 : (xs j &&& 63) = 38
  · rw [if_pos h38]; exact fin _ (lc38 hn R hj6 hL)
  rw [if_neg h38]
  by_cases h39 : (xs j &&& 63) = 39
  · rw [if_pos h39]; exact fin _ (lc39 hn R hj6 hL)
  rw [if_neg h39]
  by_cases h40 : (xs j &&& 63) = 40
  · rw [if_pos h40]; exact fin _ (lc40 hn R hj6 hL)
  rw [if_neg h40]
  by_cases h41 : (xs j &&& 63) = 41
  · rw [if_pos h41]; exact fin _ (lc41 hn R hj6 hL)
  rw [if_neg h41]
  by_cases h42 : (xs j &&& 63) = 42
  · rw [if_pos h42]; exact fin _ (lc42 hn R hj6 hL)
  rw [if_neg h42]
  by_cases h43 : (xs j &&& 63) = 43
  · rw [if_pos h43]; exact fin _ (lc43 hn R hj6 hL)
  rw [if_neg h43]
  by_cases h44 : (xs j &&& 63) = 44
  · rw [if_pos h44]; exact fin _ (lc44 hn R hj6 hL)
  rw [if_neg h44]
  by_cases h45 : (xs j &&& 63) = 45
  · rw [if_pos h45]; exact fin _ (lc45 hn R hj6 hL)
  rw [if_neg h45]
  by_cases h46 : (xs j &&& 63) = 46
  · rw [if_pos h46]; exact fin _ (lc46 hn R hj6 hL)
  rw [if_neg h46]
  by_cases h47 : (xs j &&& 63) = 47
  · rw [if_pos h47]; exact fin _ (lc47 hn R hj6 hL)
  rw [if_neg h47]
  by_cases h48 : (xs j &&& 63) = 48
  · rw [if_pos h48]; exact fin _ (lc48 hn R hj6 hL)
  rw [if_neg h48]
  rw [nI_6]
  exact K s R hj6
theorem law_l (hn : 1000 ≤ n) (hL : L ≤ 3072) : ∀ (f j : Nat) (s : mb_T), Rel s → j ≤ L → L < j + 6 * f → f_L_loop n L xs f (nI j) s = some ()
  | 0, j, s, _, h1, h2 => by omega
  | f + 1, j, s, R, h1, h2 => law_b hn hL R (fun s2 R2 h => law_l hn hL f (j + 6) s2 R2 h (by omega)) h1
theorem fillM1 (hn : 200 ≤ n) {k0 : Int32 → mb_T → Option mb_T} : f_M_init_221 n k0 n 0 s = k0 (nI 6) (sV s 203 (foU (fun _ => -9) (s.2.1 203) 6)) := by
  have e := lp (F := fun f (t : Int32 × mb_T) => f_M_init_221 n k0 f t.1 t.2) (R := k0 (nI 6) (sV s 203 (foU (fun _ => -9) (s.2.1 203) 6))) (fun i => (nI i, sV s 203 (foU (fun _ => -9) (s.2.1 203) i))) 6 ?_ ?_ n (by omega)
  · have e2 : sV s 203 (foU (fun _ => -9) (s.2.1 203) 0) = s := sVid
    dsimp only at e
    rw [e2] at e
    exact e
  · intro i hi f
    dsimp only
    rw [f_M_init_221.eq_2, if_neg (show ¬ (6 : Int32) ≤ nI i from npi (p := 6) (by decide) hi), wrI (by omega) (by decide), sAV, nI_1, foU_s]
  · intro f
    dsimp only
    rw [f_M_init_221.eq_2, if_pos (show (6 : Int32) ≤ nI 6 by decide)]
theorem fillM2 (hn : 200 ≤ n) {k0 : Int32 → mb_T → Option mb_T} : f_M_init_243 n k0 n 0 s = k0 (nI 4) (sV s 206 (foU (fun _ => -9) (s.2.1 206) 4)) := by
  have e := lp (F := fun f (t : Int32 × mb_T) => f_M_init_243 n k0 f t.1 t.2) (R := k0 (nI 4) (sV s 206 (foU (fun _ => -9) (s.2.1 206) 4))) (fun i => (nI i, sV s 206 (foU (fun _ => -9) (s.2.1 206) i))) 4 ?_ ?_ n (by omega)
  · have e2 : sV s 206 (foU (fun _ => -9) (s.2.1 206) 0) = s := sVid
    dsimp only at e
    rw [e2] at e
    exact e
  · intro i hi f
    dsimp only
    rw [f_M_init_243.eq_2, if_neg (show ¬ (4 : Int32) ≤ nI i from npi (p := 4) (by decide) hi), wrI (by omega) (by decide), sAV, nI_1, foU_s]
  · intro f
    dsimp only
    rw [f_M_init_243.eq_2, if_pos (show (4 : Int32) ≤ nI 4 by decide)]
theorem fillM3 (hn : 200 ≤ n) : ∃ u, f_M_init_264 n (fun x_17 s_18 => some s_18) n 0 s = some u ∧ Fr [] [229] s u ∧ ∀ k, k < 3 → u.2.1 229 (850 * k) = -9 := by
  have L := lpE (F := fun f (t : Int32 × mb_T) => f_M_init_264 n (fun x_17 s_18 => some s_18) f t.1 t.2) (R := fun t => some t.2) (fun i (t : Int32 × mb_T) => t.1 = nI i ∧ Fr [] [229] s t.2 ∧ ∀ k, k < i → t.2.2.1 229 (850 * k) = -9) 3 ?_ ?_ (t0 := (0, s)) (f := n) ⟨rfl, FrR, fun k hk => by omega⟩ (by omega)
  · obtain ⟨⟨a, t⟩, ⟨p1, p2, p3⟩, p4⟩ := L
    exact ⟨t, p4, p2, p3⟩
  · rintro i hi ⟨a, t⟩ ⟨p1, p2, p3⟩
    dsimp only at p1 p2 p3
    subst p1
    refine ⟨(nI (i + 1), sA t 229 (850 * i) (-9)), ⟨rfl, FrT p2 FrA, fun k hk => ?_⟩, fun f => ?_⟩
    · show upd (t.2.1 229) (850 * i) (-9) (850 * k) = -9
      rw [updI]
      by_cases c : k = i
      · rw [if_pos (by rw [c])]
      · rw [if_neg (by omega)]; exact p3 k (by omega)
    · dsimp only
      rw [f_M_init_264.eq_2, if_neg (show ¬ (3 : Int32) ≤ nI i from npi (p := 3) (by decide) hi), nI_850, wrI (by omega) (by decide), nI_1]
  · rintro ⟨a, t⟩ ⟨p1, p2, p3⟩ f
    dsimp only at p1 p2 p3
    subst p1
    dsimp only
    rw [f_M_init_264.eq_2, if_pos (show (3 : Int32) ≤ nI 3 by decide)]
end WA
theorem pure_main {L : Nat} (hL : L ≤ 3072) (xs : Nat → Int32) : ∃ (n : Nat) (s1 sM : mb_T), f_C_init n mz_0 = some s1 ∧ s1.2.2.2.2 = (fun _ => false) ∧ f_M_init n (mz_M s1) = some sM ∧ f_L_loop n L xs 600 0 sM = some () := by
  obtain ⟨s1, h1⟩ : ∃ s1, s1 = sV (sV mz_0 1 (foU (fun _ => -1) (fun _ => 0) 6)) 3 (foU (fun _ => -1) (fun _ => 0) 4) := ⟨_, rfl⟩
  obtain ⟨s2, h2⟩ : ∃ s2, s2 = sV (sV (mz_M s1) 203 (foU (fun _ => -9) (fun _ => 0) 6)) 206 (foU (fun _ => -9) (fun _ => 0) 4) := ⟨_, rfl⟩
  obtain ⟨sM, e1, e2, e3⟩ := fillM3 (n := 1000) (s := s2) (by omega)
  have ab : ∀ a, a ≠ 229 → sM.2.1 a = s2.2.1 a := fun a ha => e2.2.1 a (by simpa using ha)
  have af : sM.1 = s2.1 := by
    funext a k
    exact e2.1 a k (by simp)
  have kp : ∀ k, k < 3 → sM.2.2.2.2 k = false := by
    intro k hk
    rw [e2.2.2, h2, h1]
    show (if k = 3 then true else false) = false
    rw [if_neg (by omega)]
  refine ⟨1000, s1, sM, ?_, by rw [h1]; rfl, ?_, law_l (by omega) hL 600 0 sM ?_ (by omega) (by omega)⟩
  · unfold f_C_init
    rw [p_fillI (by decide) (by omega), cwS2, p_fillI (by decide) (by omega), cwS2, h1]
    rfl
  · unfold f_M_init
    rw [fillM1 (by omega), fillM2 (by omega)]
    have : sV (sV (mz_M s1) 203 (foU (fun _ => -9) ((mz_M s1).2.1 203) 6)) 206 (foU (fun _ => -9) ((sV (mz_M s1) 203 (foU (fun _ => -9) ((mz_M s1).2.1 203) 6)).2.1 206) 4) = s2 := by rw [h2]; rfl
    rw [this]
    exact e1
  · have g1 : sM.2.1 1 = foU (fun _ => -1) (fun _ => 0) 6 := by rw [ab 1 (by decide), h2, h1]; rfl
    have g3 : sM.2.1 3 = foU (fun _ => -1) (fun _ => 0) 4 := by rw [ab 3 (by decide), h2, h1]; rfl
    have g203 : sM.2.1 203 = foU (fun _ => -9) (fun _ => 0) 6 := by rw [ab 203 (by decide), h2]; rfl
    have g206 : sM.2.1 206 = foU (fun _ => -9) (fun _ => 0) 4 := by rw [ab 206 (by decide), h2]; rfl
    have gf : ∀ a k, a ≠ 200 → sM.1 a k = 0 := fun a k ha => by
      rw [af, h2, h1]
      show (if a = 200 then _ else (0 : Int32)) = 0
      rw [if_neg ha]
    have gm : ∀ k, sM.1 200 k = if k = 22 then -9 else if k = 25 then -9 else 0 := fun k => by
      rw [af, h2]
      rfl
    refine ⟨?_, ?_, ⟨?_, ?_⟩, ?_, false, (0, fun _ => 0, fun _ => 0, fun _ => 0, fun _ => 0, sitB id 0 false, mkB (fun _ => ofK 0 3) 0, 0), (fun _ => 0, 0, 0, none), 0, ⟨rfl, rfl, rfl⟩, ?_, ?_, ?_, ?_, ?_, ?_, ?_, ?_, ?_⟩
    · intro r hr
      right
      rw [g1, g203, foU_get, foU_get, if_pos hr, if_pos hr]
      exact ⟨rfl, rfl⟩
    · intro r hr
      right
      rw [g3, g206, foU_get, foU_get, if_pos hr, if_pos hr]
      exact ⟨rfl, rfl⟩
    · rw [gf 0 13 (by decide), gm]; rfl
    · intro f hf
      rw [ab 12 (by decide), ab 201 (by decide), h2, h1]
      rfl
    · rw [gf 0 14 (by decide), gm]; rfl
    · intro x hx
      exact absurd hx (by show ¬ x < 0; omega)
    · refine ⟨by show 0 ≤ 5; omega, by rw [gm]; rfl, by rw [gm]; rfl, by rw [gm]; rfl, by rw [gm]; rfl, rfl, ⟨id, false, fun x hx => ?_, fun h => ?_, fun x y hx _ => ?_⟩, fun x hx => ?_, fun x hx => ?_⟩
      · exact absurd hx (by show ¬ x < 0; omega)
      · exact absurd h (by show ¬ 1 ≤ 0; omega)
      · exact absurd hx (by show ¬ x < 0; omega)
      · exact absurd hx (by show ¬ x < 0; omega)
      · exact absurd hx (by show ¬ x < 0; omega)
    · intro x hx
      rw [ab 223 (by decide), h2]
      show upd (upd (upd (upd (upd (fun _ => 0) 0 0) 1 1) 2 2) 3 3) 4 4 x = nI x
      have : x = 0 ∨ x = 1 ∨ x = 2 ∨ x = 3 ∨ x = 4 := by omega
      rcases this with rfl | rfl | rfl | rfl | rfl <;> rfl
    · rw [gm]; rfl
    · refine ⟨⟨by show 0 ≤ 5; omega, by rw [gf 100 0 (by decide)]; rfl, by rw [gf 100 1 (by decide)]; rfl, by rw [gf 100 3 (by decide)], by rw [gf 100 4 (by decide)], ⟨0, by omega, rfl, fun _ => rfl, fun q => by omega⟩, fun x hx => ?_⟩, ⟨fun x hx => ?_, fun g hg => by cases hg⟩, by rw [gf 100 2 (by decide)], lawok_n (x := 0) (by omega), fun mi m1 m2 => ?_⟩
      · exact absurd hx (by show ¬ x < 0; omega)
      · exact absurd hx (by show ¬ x < 0; omega)
      · have m2 : (0 : Int32) = nI mi := m2
        rw [show (0 : Int32) = nI 0 from rfl, nI_eq (by decide) (by omega)] at m2
        subst m2
        intro e he
        omega
    · intro h
      exact absurd h (by show ¬ 1 ≤ 0; omega)
    · intro _
      exact ⟨rfl, rfl, rfl, rfl⟩
    · intro k hk
      exact Or.inl ⟨Or.inl (kp k hk), e3 k hk⟩
    · intro h
      exact absurd h (by show ¬ 1 ≤ 0; omega)
