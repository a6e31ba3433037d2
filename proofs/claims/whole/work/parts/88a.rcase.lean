/-! the pure part: the calls on rows -/
theorem inI_pt {j m : Nat} (h : j < m) (hm : m < 2 ^ 31) : inI (nI j) 0 (nI m - 1) = 1 := by
  have hs : nI m - 1 = nI (m - 1) := by
    have := nI_pred (m - 1)
    rwa [show m - 1 + 1 = m by omega] at this
  rw [hs, show (0 : Int32) = nI 0 from rfl, inI_t (by omega) (by omega) (by omega)]
theorem inI_pf {m : Nat} {Y : Int32} (h : Y < 0 ∨ nI m ≤ Y) (hm : m < 2 ^ 31) : inI Y 0 (nI m - 1) = 0 := by
  rcases Nat.eq_zero_or_pos m with c | c
  · subst c
    unfold inI
    rcases h with h | h
    · rw [if_pos h]
    · split
      · rfl
      · rw [if_pos (Int32.lt_of_lt_of_le (show nI 0 - 1 < nI 0 by decide) h)]
  · have hs : nI m - 1 = nI (m - 1) := by
      have := nI_pred (m - 1)
      rwa [show m - 1 + 1 = m by omega] at this
    rw [hs]
    exact inI_f (by rwa [show m - 1 + 1 = m by omega]) (by omega)
section RC
variable {s t u : mb_T} {n p a b q m i c k x y j : Nat} {v : Int32} {z : zT} {w w2 : wT} {r : Bool} {law X Y V : Int32} {fs gs ks : List (Nat × Nat)} {as bs cs : List Nat} {hM nM : Nat → Int32}
theorem pC_f1 : f_C_found n 1 s = some (-3, fC 1 s) := pC_found (k := 1) (by decide) (by decide)
theorem pM_f1 : f_M_meet n 1 s = some (-3, fM 1 s) := pM_meet (k := 1) (by decide) (by decide)
theorem pC_f2 : f_C_found n 2 s = some (-3, fC 2 s) := pC_found (k := 2) (by decide) (by decide)
theorem pM_f2 : f_M_meet n 2 s = some (-3, fM 2 s) := pM_meet (k := 2) (by decide) (by decide)
theorem pC_f3 : f_C_found n 3 s = some (-3, fC 3 s) := pC_found (k := 3) (by decide) (by decide)
theorem pM_f3 : f_M_meet n 3 s = some (-3, fM 3 s) := pM_meet (k := 3) (by decide) (by decide)
theorem pC_f4 : f_C_found n 4 s = some (-3, fC 4 s) := pC_found (k := 4) (by decide) (by decide)
theorem pM_f4 : f_M_meet n 4 s = some (-3, fM 4 s) := pM_meet (k := 4) (by decide) (by decide)
theorem pC_f5 : f_C_found n 5 s = some (-3, fC 5 s) := pC_found (k := 5) (by decide) (by decide)
theorem pM_f5 : f_M_meet n 5 s = some (-3, fM 5 s) := pM_meet (k := 5) (by decide) (by decide)
theorem rowC_q (hx : x < 6) (hq : 26 ≤ q) : (rowC x m hM s).2.1 q = s.2.1 q := rowC_fr.2.1 q (by simp; omega)
theorem Rel_row (R : Rel s) (hx : x < 6) (hm : m ≤ 60) (e : ∀ i, i < m → hM i = nM (60 * x + i)) (e2 : ∀ j, j < 60 * x ∨ 60 * x + 60 ≤ j → nM j = s.2.1 204 j) : Rel (rowM x m nM (rowC x m hM s)) := by
  obtain ⟨r1, r2, r3, r4, r, z, w, law, r5⟩ := R
  have F := rowCM (s := s) (m := m) (hM := hM) (nM := nM) hx
  refine ⟨Rows_w r1 hx hm e e2, Txts_fr r2 F, Fnd_fr r3 F, ?_, r, z, w, law, Cav_fr r5 F⟩
  rw [F.1 0 14 (by decide), F.1 200 2 (by decide)]; exact r4
theorem Rel_ask (R : Rel s) : Rel (sF (sF s 0 14 v) 200 2 v) := by
  obtain ⟨r1, r2, r3, r4, r, z, w, law, r5⟩ := R
  have F : Fk [(0, 14), (200, 2)] [] s (sF (sF s 0 14 v) 200 2 v) := FkT (FrQ (FrF (i := 0) (k := 14))) (FrQ (FrF (i := 200) (k := 2)))
  exact ⟨Rows_fr r1 F, Txts_fr r2 F, Fnd_fr r3 F, rfl, r, z, w, law, Cav_fr r5 F⟩
theorem nI_60 : (60 : Int32) * nI x = nI (60 * x) := nI_mul 60 x
theorem nI_80 : (80 : Int32) * nI x = nI (80 * x) := nI_mul 80 x
theorem pM_setRow (hx : x < 6) (hi : i < 60) : f_M_setRow n (nI x) (nI i) v s = some (sA s 204 (60 * x + i) v) := by
  unfold f_M_setRow
  rw [nI_60, nI_add, wrI (by omega) (by decide)]
theorem pM_rowAt (hx : x < 6) (hi : i < 60) : f_M_rowAt n (nI x) (nI i) s = some (s.2.1 204 (60 * x + i), s) := by
  unfold f_M_rowAt
  rw [nI_60, nI_add, rdI (by omega) (by decide)]
theorem pM_row (hn : 200 ≤ n) (hx : x < 6) (hm : m ≤ 60) : f_M_row n (nI x) (nI m) s = some (nI m, rowM x m (va_cpy (fun _ => 0) (s.2.1 204) 0 (60 * x) 60) s) := by
  unfold f_M_row
  rw [pM_isRow_t hx, clS, if_neg (by decide), if_pos (show nI m ≤ (60 : Int32) from nI_le (b := 60) hm (by decide)), if_pos (nI_pos' (by omega)), wrI hx (by decide)]
  have e := lp (F := fun f (t : Int32 × mb_T) => f_M_row_34 n (fun x_13 s_14 => some (nI m, s_14)) (nI x) (nI m) f t.1 t.2) (R := some (nI m, sV (sA s 203 x (nI m)) 204 (va_cpy (fun _ => 0) (s.2.1 204) 0 (60 * x) 60))) (fun i => (nI i, sV (sA s 203 x (nI m)) 204 (va_cpy (fun _ => 0) (s.2.1 204) 0 (60 * x) i))) 60 ?_ ?_ n (by omega)
  · dsimp only at e
    rw [cpy_0] at e
    have e2 : sV (sA s 203 x (nI m)) 204 (s.2.1 204) = sA s 203 x (nI m) := sVid (s := sA s 203 x (nI m)) (q := 204)
    rw [e2] at e
    exact e
  · intro i hi f
    dsimp only
    rw [f_M_row_34.eq_2, if_neg (show ¬ (60 : Int32) ≤ nI i from npi (p := 60) (by decide) hi), pM_setRow hx hi, cwS2, sAV, nI_1, ← cpy_s]
  · intro f
    dsimp only
    rw [f_M_row_34.eq_2, if_pos (show (60 : Int32) ≤ nI 60 by decide)]
theorem cs_row (hn : 200 ≤ n) : CS (f_C_row n X Y) (f_M_row n X Y) := by
  intro s R
  rcases rngC (x := X) 6 with ⟨x, hx, rfl⟩ | hX
  · by_cases h60 : Y ≤ 60
    · by_cases h0 : 0 ≤ Y
      · obtain ⟨m, hm, rfl⟩ := nI_of2 (M := 60) (n := 60) rfl (Int32.not_lt.mpr h0) h60
        refine ⟨nI m, rowC x m (foU (fun _ => 0) (s.2.1 (20 + x)) 60) s, _, ?_, pM_row hn hx hm, Rel_row R hx hm ?_ ?_⟩
        · unfold f_C_row
          rw [pC_isRow_t hx, clS, if_neg (by decide), if_pos h60, if_pos h0, ixI hx (by decide), nI_clamp (by omega), p_fillI (by decide) (by omega), cwS2, wrI hx (by decide)]
          rfl
        · intro i hi
          rw [foU_get, if_pos (by omega), cpy_i (by omega)]
        · intro j hj
          rw [cpy_o hj, rowC_q hx (by decide)]
      · refine ⟨-3, fC 5 s, fM 5 (fC 5 s), ?_, ?_, Rel_found R⟩
        · unfold f_C_row
          rw [pC_isRow_t hx, clS, if_neg (by decide), if_pos h60, if_neg h0, show (5 : Int32) = nI 5 from rfl, pC_found (by decide) (by decide), clS]
        · unfold f_M_row
          rw [pM_isRow_t hx, clS, if_neg (by decide), if_pos h60, if_neg h0, show (5 : Int32) = nI 5 from rfl, pM_meet (by decide) (by decide), clS]
    · refine ⟨-1, s, s, ?_, ?_, R⟩
      · unfold f_C_row
        rw [pC_isRow_t hx, clS, if_neg (by decide), if_neg h60]
      · unfold f_M_row
        rw [pM_isRow_t hx, clS, if_neg (by decide), if_neg h60]
  · refine ⟨-1, s, s, ?_, ?_, R⟩
    · unfold f_C_row
      rw [pC_isRow_f hX, clS, if_pos rfl]
    · unfold f_M_row
      rw [pM_isRow_f hX, clS, if_pos rfl]
theorem cs_tear : CS (f_C_tear n X) (f_M_tear n X) := by
  intro s R
  rcases rngC (x := X) 6 with ⟨x, hx, rfl⟩ | hX
  · rcases R.1 x hx with ⟨m, m1, m2, m3, m4⟩ | ⟨m1, m2⟩
    · refine ⟨1, sA s 1 x (-1), sA (sA s 1 x (-1)) 203 x (-9), ?_, ?_, ?_⟩
      · unfold f_C_tear
        rw [pC_rowR_t hx m2 m1, clS, if_pos rfl, wrI hx (by decide)]
      · unfold f_M_tear
        rw [pM_rowR_t (s := sA s 1 x (-1)) (m := m) hx m3 m1, clS, if_pos (by decide), wrI hx (by decide)]
      · obtain ⟨r1, r2, r3, r4, r, z, w, law, r5⟩ := R
        have F : Fk [] [1, 203] s (sA (sA s 1 x (-1)) 203 x (-9)) := FkT (FrQ (FrA (q := 1))) (FrQ (FrA (q := 203)))
        refine ⟨Rows_set (x := x) r1 hx ?_ (Or.inr ⟨?_, ?_⟩), Txts_fr r2 F, Fnd_fr r3 F, r4, r, z, w, law, Cav_fr r5 F⟩
        · intro r hr hne
          refine ⟨?_, ?_, F.2.1 (20 + r) (by simp; omega), fun i _ => rfl⟩
          · show upd (s.2.1 1) x (-1) r = _
            rw [updI, if_neg hne]
          · show upd (s.2.1 203) x (-9) r = _
            rw [updI, if_neg hne]
        · show upd (s.2.1 1) x (-1) x = _
          rw [updI, if_pos rfl]
        · show upd (s.2.1 203) x (-9) x = _
          rw [updI, if_pos rfl]
    · refine ⟨-3, fC 1 s, fM 1 (fC 1 s), ?_, ?_, Rel_found R⟩
      · unfold f_C_tear
        rw [pC_rowR_m hx m1, clS, if_neg (by decide)]
      · unfold f_M_tear
        rw [pM_rowR_m (s := fC 1 s) hx m2, clS, if_neg (by decide)]
  · refine ⟨-1, s, s, ?_, ?_, R⟩
    · unfold f_C_tear
      rw [pC_rowR_f hX, clS, if_neg (by decide)]
    · unfold f_M_tear
      rw [pM_rowR_f hX, clS, if_neg (by decide)]
theorem pC_pl_t (hx : x < 6) (e : s.2.1 1 x = nI m) (hm : m ≤ 60) (hj : j < m) : f_C_placeRefusal n (nI x) (nI j) s = some (0, s) := by
  unfold f_C_placeRefusal
  rw [pC_rowR_t hx e hm, clS, if_pos rfl, mb_jn, if_neg (nI_pos (by omega)), rdI hx (by decide), e, if_pos (nI_lt hj (by omega))]
theorem pC_pl_f (hx : x < 6) (e : s.2.1 1 x = nI m) (hm : m ≤ 60) (hj : Y < 0 ∨ nI m ≤ Y) : f_C_placeRefusal n (nI x) Y s = some (-3, fC 2 s) := by
  unfold f_C_placeRefusal
  rw [pC_rowR_t hx e hm, clS, if_pos rfl, mb_jn, rdI hx (by decide), e]
  simp only [pC_f2, clS]
  rcases hj with h | h
  · rw [if_pos h]
  · rw [if_neg (Int32.not_lt.mpr h)]; split <;> rfl
theorem pM_at_t (hx : x < 6) (e : s.2.1 203 x = nI m) (hm : m ≤ 60) (hj : j < m) : f_M_at n (nI x) (nI j) s = some (1, sF s 200 2 (s.2.1 204 (60 * x + j))) := by
  unfold f_M_at
  rw [pM_rowR_t hx e hm, clS, if_pos (by decide), rdI hx (by decide), e, pM_in, clS, inI_pt hj (by omega), if_neg (by decide), pM_rowAt hx (by omega), clS]
  rfl
theorem pM_at_f (hx : x < 6) (e : s.2.1 203 x = nI m) (hm : m ≤ 60) (hj : Y < 0 ∨ nI m ≤ Y) : f_M_at n (nI x) Y s = some (-3, fM 2 s) := by
  unfold f_M_at
  rw [pM_rowR_t hx e hm, clS, if_pos (by decide), rdI hx (by decide), e, pM_in, clS, inI_pf hj (by omega), if_pos rfl, show (2 : Int32) = nI 2 from rfl, pM_meet (by decide) (by decide), clS]
theorem cs_at : CS (f_C_at n X Y) (f_M_at n X Y) := by
  intro s R
  rcases rngC (x := X) 6 with ⟨x, hx, rfl⟩ | hX
  · rcases R.1 x hx with ⟨m, m1, m2, m3, m4⟩ | ⟨m1, m2⟩
    · rcases rngC (x := Y) m (by omega) with ⟨j, hj, rfl⟩ | hY
      · refine ⟨1, sF s 0 14 (s.2.1 204 (60 * x + j)), _, ?_, pM_at_t (m := m) hx m3 m1 hj, Rel_ask R⟩
        unfold f_C_at
        rw [pC_pl_t hx m2 m1 hj, clS, if_pos rfl, ixI hx (by decide), nI_clamp (by omega), rdI (by omega) (by decide), m4 j hj]
        rfl
      · refine ⟨-3, fC 2 s, _, ?_, pM_at_f (m := m) hx m3 m1 hY, Rel_found R⟩
        unfold f_C_at
        rw [pC_pl_f hx m2 m1 hY, clS, if_neg (by decide)]
    · refine ⟨-3, fC 1 s, fM 1 (fC 1 s), ?_, ?_, Rel_found R⟩
      · unfold f_C_at f_C_placeRefusal
        rw [pC_rowR_m hx m1, clS, if_neg (by decide), clS, if_neg (by decide)]
      · unfold f_M_at
        rw [pM_rowR_m (s := fC 1 s) hx m2, clS, if_neg (by decide)]
  · refine ⟨-1, s, s, ?_, ?_, R⟩
    · unfold f_C_at f_C_placeRefusal
      rw [pC_rowR_f hX, clS, if_neg (by decide), clS, if_neg (by decide)]
    · unfold f_M_at
      rw [pM_rowR_f hX, clS, if_neg (by decide)]
theorem cs_lay : CS (f_C_lay n X Y V) (f_M_lay n X Y V) := by
  intro s R
  rcases rngC (x := X) 6 with ⟨x, hx, rfl⟩ | hX
  · rcases R.1 x hx with ⟨m, m1, m2, m3, m4⟩ | ⟨m1, m2⟩
    · rcases rngC (x := Y) m (by omega) with ⟨j, hj, rfl⟩ | hY
      · refine ⟨1, sA (sF s 0 14 (s.2.1 204 (60 * x + j))) (20 + x) j V, sA (sF (sA (sF s 0 14 (s.2.1 204 (60 * x + j))) (20 + x) j V) 200 2 (s.2.1 204 (60 * x + j))) 204 (60 * x + j) V, ?_, ?_, ?_⟩
        · unfold f_C_lay
          rw [pC_pl_t hx m2 m1 hj, clS, if_pos rfl, ixI hx (by decide), nI_clamp (by omega), rdI (by omega) (by decide), m4 j hj, bdS, ixI hx (by decide), wrI (by omega) (by decide)]
        · have f1 : Fr [] [20 + x] (sF s 0 14 (s.2.1 204 (60 * x + j))) (sA (sF s 0 14 (s.2.1 204 (60 * x + j))) (20 + x) j V) := FrA
          have e203 : (sA (sF s 0 14 (s.2.1 204 (60 * x + j))) (20 + x) j V).2.1 203 x = nI m := by
            rw [f1.2.1 203 (by simp; omega)]; exact m3
          have e204 : (sA (sF s 0 14 (s.2.1 204 (60 * x + j))) (20 + x) j V).2.1 204 = s.2.1 204 := by
            rw [f1.2.1 204 (by simp; omega)]; rfl
          unfold f_M_lay
          rw [pM_at_t (m := m) hx e203 m1 hj, clS, if_pos (by decide), pM_setRow hx (by omega), cwS2, e204]
        · obtain ⟨r1, r2, r3, r4, r, z, w, law, r5⟩ := R
          have F : Fk [(0, 14), (200, 2)] [20, 21, 22, 23, 24, 25, 204] s (sA (sF (sA (sF s 0 14 (s.2.1 204 (60 * x + j))) (20 + x) j V) 200 2 (s.2.1 204 (60 * x + j))) 204 (60 * x + j) V) := by
            refine FkT (FkT (FkT (FrQ (FrF (i := 0) (k := 14))) (FrQ (FrA (q := 20 + x)) (by decide) ?_)) (FrQ (FrF (i := 200) (k := 2)))) (FrQ (FrA (q := 204)))
            have : x = 0 ∨ x = 1 ∨ x = 2 ∨ x = 3 ∨ x = 4 ∨ x = 5 := by omega
            rcases this with rfl | rfl | rfl | rfl | rfl | rfl <;> decide
          have g204 : (sA (sF (sA (sF s 0 14 (s.2.1 204 (60 * x + j))) (20 + x) j V) 200 2 (s.2.1 204 (60 * x + j))) 204 (60 * x + j) V).2.1 204 = upd (s.2.1 204) (60 * x + j) V := by
            rw [sA2, if_pos rfl]
            congr 1
            show (sA (sF s 0 14 (s.2.1 204 (60 * x + j))) (20 + x) j V).2.1 204 = _
            rw [sA2, if_neg (by omega)]; rfl
          have gr : ∀ y, y < 6 → (sA (sF (sA (sF s 0 14 (s.2.1 204 (60 * x + j))) (20 + x) j V) 200 2 (s.2.1 204 (60 * x + j))) 204 (60 * x + j) V).2.1 (20 + y) = if y = x then upd (s.2.1 (20 + x)) j V else s.2.1 (20 + y) := by
            intro y hy
            rw [sA2, if_neg (by omega)]
            show (sA (sF s 0 14 (s.2.1 204 (60 * x + j))) (20 + x) j V).2.1 (20 + y) = _
            rw [sA2]
            by_cases c : y = x
            · rw [if_pos (by omega), if_pos c]; rfl
            · rw [if_neg (by omega), if_neg c]; rfl
          refine ⟨Rows_set (x := x) r1 hx ?_ (Or.inl ⟨m, m1, ?_, ?_, ?_⟩), Txts_fr r2 F, Fnd_fr r3 F, rfl, r, z, w, law, Cav_fr r5 F⟩
          · intro r hr hne
            refine ⟨by rw [F.2.1 1 (by decide)], by rw [F.2.1 203 (by decide)], ?_, fun i hi => ?_⟩
            · rw [gr r hr, if_neg hne]
            · rw [g204, updI, if_neg]
              rcases Nat.lt_or_gt_of_ne hne with l | l <;> omega
          · rw [F.2.1 1 (by decide)]; exact m2
          · rw [F.2.1 203 (by decide)]; exact m3
          · intro i hi
            rw [gr x hx, if_pos rfl, g204, updI, updI]
            by_cases c : i = j
            · rw [if_pos c, if_pos (by omega)]
            · rw [if_neg c, if_neg (by omega)]
              exact m4 i hi
      · refine ⟨-3, fC 2 s, fM 2 (fC 2 s), ?_, ?_, Rel_found R⟩
        · unfold f_C_lay
          rw [pC_pl_f hx m2 m1 hY, clS, if_neg (by decide)]
        · unfold f_M_lay
          rw [pM_at_f (s := fC 2 s) (m := m) hx m3 m1 hY, clS, if_neg (by decide)]
    · refine ⟨-3, fC 1 s, fM 1 (fC 1 s), ?_, ?_, Rel_found R⟩
      · unfold f_C_lay f_C_placeRefusal
        rw [pC_rowR_m hx m1, clS, if_neg (by decide), clS, if_neg (by decide)]
      · unfold f_M_lay f_M_at
        rw [pM_rowR_m (s := fC 1 s) hx m2, clS, if_neg (by decide), clS, if_neg (by decide)]
  · refine ⟨-1, s, s, ?_, ?_, R⟩
    · unfold f_C_lay f_C_placeRefusal
      rw [pC_rowR_f hX, clS, if_neg (by decide), clS, if_neg (by decide)]
    · unfold f_M_lay f_M_at
      rw [pM_rowR_f hX, clS, if_neg (by decide), clS, if_neg (by decide)]
end RC
