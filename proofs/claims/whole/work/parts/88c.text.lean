/-! the pure part: the calls on texts -/
section RE
variable {s t u : mb_T} {n p a b q m i c k x y j l : Nat} {v : Int32} {z : zT} {w w2 : wT} {r : Bool} {law X Y V U T : Int32} {fs gs ks : List (Nat × Nat)} {as bs cs : List Nat} {hM nM : Nat → Int32}
theorem pC_txtR_f (h : X < 0 ∨ (4 : Int32) ≤ X) : f_C_textRefusal n X s = some (-1, s) := by
  unfold f_C_textRefusal
  rw [pC_isText_f h, clS, if_pos rfl]
theorem pC_txtR_m (h : x < 4) (e : s.2.1 3 x = -1) : f_C_textRefusal n (nI x) s = some (-3, fC 1 s) := by
  unfold f_C_textRefusal
  rw [pC_isText_t h, clS, if_neg (by decide), rdI h (by decide), e, if_neg (by decide), pC_f1, clS]
theorem pC_txtR_t (h : x < 4) (e : s.2.1 3 x = nI m) (hm : m ≤ 80) : f_C_textRefusal n (nI x) s = some (0, s) := by
  unfold f_C_textRefusal
  rw [pC_isText_t h, clS, if_neg (by decide), rdI h (by decide), e, if_pos (nI_pos' (by omega))]
theorem pM_txtR_f (h : X < 0 ∨ (4 : Int32) ≤ X) : f_M_askedText n X s = some (-1, s) := by
  unfold f_M_askedText
  rw [pM_isText_f h, clS, if_pos rfl]
theorem pM_txtR_m (h : x < 4) (e : s.2.1 206 x = -9) : f_M_askedText n (nI x) s = some (-3, fM 1 s) := by
  unfold f_M_askedText
  rw [pM_isText_t h, clS, if_neg (by decide), rdI h (by decide), e, if_neg (by decide), pM_f1, clS]
theorem pM_txtR_t (h : x < 4) (e : s.2.1 206 x = nI m) (hm : m ≤ 80) : f_M_askedText n (nI x) s = some (0, s) := by
  unfold f_M_askedText
  rw [pM_isText_t h, clS, if_neg (by decide), rdI h (by decide), e, if_pos (nI_pos' (by omega))]
theorem Txts_set (H : Txts s) (hr : x < 4) (e1 : ∀ r, r < 4 → r ≠ x → t.2.1 3 r = s.2.1 3 r ∧ t.2.1 206 r = s.2.1 206 r ∧ t.2.1 (30 + r) = s.2.1 (30 + r) ∧ ∀ i, i < 80 → t.2.1 207 (80 * r + i) = s.2.1 207 (80 * r + i)) (e2 : (∃ m, m ≤ 80 ∧ t.2.1 3 x = nI m ∧ t.2.1 206 x = nI m ∧ ∀ i, i < m → t.2.1 (30 + x) i = t.2.1 207 (80 * x + i)) ∨ (t.2.1 3 x = -1 ∧ t.2.1 206 x = -9)) : Txts t := by
  intro r hr2
  by_cases c : r = x
  · rw [c]; exact e2
  · obtain ⟨q1, q2, q3, q4⟩ := e1 r hr2 c
    rcases H r hr2 with ⟨m, m1, m2, m3, m4⟩ | ⟨m1, m2⟩
    · refine Or.inl ⟨m, m1, by rw [q1, m2], by rw [q2, m3], fun i hi => ?_⟩
      rw [q3, q4 i (by omega)]
      exact m4 i hi
    · exact Or.inr ⟨by rw [q1, m1], by rw [q2, m2]⟩
theorem p_fillB (hm : m < 2 ^ 31) (hn : m < n) : f_Y_fillB n q m 32 s = some (sV s q (foU (fun _ => 32) (s.2.1 q) m)) := by
  unfold f_Y_fillB
  have e := lp (F := fun f (t : Int32 × mb_T) => f_Y_fillB_5 n (fun x_5 s_6 => some s_6) q m 32 (nI m) f t.1 t.2) (R := some (sV s q (foU (fun _ => 32) (s.2.1 q) m))) (fun i => (nI i, sV s q (foU (fun _ => 32) (s.2.1 q) i))) m ?_ ?_ n hn
  · have e2 : sV s q (foU (fun _ => 32) (s.2.1 q) 0) = s := sVid
    dsimp only at e
    rw [e2] at e
    exact e
  · intro i hi f
    dsimp only
    rw [f_Y_fillB_5.eq_2, if_neg (npi hm hi), wrI hi hm, sAV, nI_1, foU_s, show Int8.toInt32 (Int32.toInt8 32) = 32 by decide]
  · intro f
    dsimp only
    rw [f_Y_fillB_5.eq_2, if_pos npp]
theorem pM_text (hn : 200 ≤ n) (hx : x < 4) (hm : m ≤ 80) : f_M_text n (nI x) (nI m) s = some (nI m, sV (sA s 206 x (nI m)) 207 (va_cpy (fun _ => 32) (s.2.1 207) 0 (80 * x) 80)) := by
  unfold f_M_text
  rw [pM_isText_t hx, clS, if_neg (by decide), if_pos (show nI m ≤ (80 : Int32) from nI_le (b := 80) hm (by decide)), if_pos (nI_pos' (by omega)), wrI hx (by decide)]
  have e := lp (F := fun f (t : Int32 × mb_T) => f_M_text_34 n (fun x_13 s_14 => some (nI m, s_14)) (nI x) (nI m) f t.1 t.2) (R := some (nI m, sV (sA s 206 x (nI m)) 207 (va_cpy (fun _ => 32) (s.2.1 207) 0 (80 * x) 80))) (fun i => (nI i, sV (sA s 206 x (nI m)) 207 (va_cpy (fun _ => 32) (s.2.1 207) 0 (80 * x) i))) 80 ?_ ?_ n (by omega)
  · dsimp only at e
    rw [cpy_0] at e
    have e2 : sV (sA s 206 x (nI m)) 207 (s.2.1 207) = sA s 206 x (nI m) := sVid (s := sA s 206 x (nI m)) (q := 207)
    rw [e2] at e
    exact e
  · intro i hi f
    dsimp only
    rw [f_M_text_34.eq_2, if_neg (show ¬ (80 : Int32) ≤ nI i from npi (p := 80) (by decide) hi), nI_80, nI_add, wrI (by omega) (by decide), sAV, nI_1, ← cpy_s]
  · intro f
    dsimp only
    rw [f_M_text_34.eq_2, if_pos (show (80 : Int32) ≤ nI 80 by decide)]
theorem cs_text (hn : 200 ≤ n) : CS (f_C_text n X Y) (f_M_text n X Y) := by
  intro s R
  rcases rngC (x := X) 4 with ⟨x, hx, rfl⟩ | hX
  · by_cases h60 : Y ≤ 80
    · by_cases h0 : 0 ≤ Y
      · obtain ⟨m, hm, rfl⟩ := nI_of2 (M := 80) (n := 80) rfl (Int32.not_lt.mpr h0) h60
        refine ⟨nI m, sA (sV s (30 + x) (foU (fun _ => 32) (s.2.1 (30 + x)) 80)) 3 x (nI m), _, ?_, pM_text hn hx hm, ?_⟩
        · unfold f_C_text
          rw [pC_isText_t hx, clS, if_neg (by decide), if_pos h60, if_pos h0, ixI hx (by decide), nI_clamp (by omega), p_fillB (by decide) (by omega), cwS2, wrI hx (by decide)]
        · obtain ⟨r1, r2, r3, r4, r, z, w, law, r5⟩ := R
          generalize hg : foU (fun _ => 32) (s.2.1 (30 + x)) 80 = g
          have F0 : Fk [] [3, 30, 31, 32, 33] s (sA (sV s (30 + x) g) 3 x (nI m)) := by
            refine FkT (FrQ (FrV (q := 30 + x)) (by decide) ?_) (FrQ (FrA (q := 3)))
            have : x = 0 ∨ x = 1 ∨ x = 2 ∨ x = 3 := by omega
            rcases this with rfl | rfl | rfl | rfl <;> decide
          rw [F0.2.1 207 (by decide)]
          generalize hk : va_cpy (fun _ => 32) (s.2.1 207) 0 (80 * x) 80 = g2
          have F : Fk [] [3, 30, 31, 32, 33, 206, 207] s (sV (sA (sA (sV s (30 + x) g) 3 x (nI m)) 206 x (nI m)) 207 g2) := FkT (FkT (FkI F0) (FrQ (FrA (q := 206)))) (FrQ (FrV (q := 207)))
          have gr : ∀ r, r < 4 → (sV (sA (sA (sV s (30 + x) g) 3 x (nI m)) 206 x (nI m)) 207 g2).2.1 (30 + r) = if r = x then g else s.2.1 (30 + r) := by
            intro r hr
            rw [sV2, if_neg (by omega), sA2, if_neg (by omega), sA2, if_neg (by omega), sV2]
            by_cases c : r = x
            · rw [if_pos (by omega), if_pos c]
            · rw [if_neg (by omega), if_neg c]
          have g3 : (sV (sA (sA (sV s (30 + x) g) 3 x (nI m)) 206 x (nI m)) 207 g2).2.1 3 = upd (s.2.1 3) x (nI m) := by
            rw [sV2, if_neg (by decide), sA2, if_neg (by decide), sA2, if_pos rfl, sV2, if_neg (by omega)]
          have g6 : (sV (sA (sA (sV s (30 + x) g) 3 x (nI m)) 206 x (nI m)) 207 g2).2.1 206 = upd (s.2.1 206) x (nI m) := by
            rw [sV2, if_neg (by decide), sA2, if_pos rfl, sA2, if_neg (by decide), sV2, if_neg (by omega)]
          refine ⟨Rows_fr r1 F, Txts_set (x := x) r2 hx ?_ (Or.inl ⟨m, hm, ?_, ?_, ?_⟩), Fnd_fr r3 F, r4, r, z, w, law, Cav_fr r5 F⟩
          · intro r hr hne
            refine ⟨by rw [g3, updI, if_neg hne], by rw [g6, updI, if_neg hne], by rw [gr r hr, if_neg hne], fun i hi => ?_⟩
            rw [sV2, if_pos rfl, ← hk, cpy_o]
            rcases Nat.lt_or_gt_of_ne hne with q | q <;> omega
          · rw [g3, updI, if_pos rfl]
          · rw [g6, updI, if_pos rfl]
          · intro i hi
            rw [gr x hx, if_pos rfl, sV2, if_pos rfl, ← hk, ← hg, cpy_i (by omega), foU_get, if_pos (by omega)]
      · refine ⟨-3, fC 5 s, fM 5 (fC 5 s), ?_, ?_, Rel_found R⟩
        · unfold f_C_text
          rw [pC_isText_t hx, clS, if_neg (by decide), if_pos h60, if_neg h0, pC_f5, clS]
        · unfold f_M_text
          rw [pM_isText_t hx, clS, if_neg (by decide), if_pos h60, if_neg h0, pM_f5, clS]
    · refine ⟨-1, s, s, ?_, ?_, R⟩
      · unfold f_C_text
        rw [pC_isText_t hx, clS, if_neg (by decide), if_neg h60]
      · unfold f_M_text
        rw [pM_isText_t hx, clS, if_neg (by decide), if_neg h60]
  · refine ⟨-1, s, s, ?_, ?_, R⟩
    · unfold f_C_text
      rw [pC_isText_f hX, clS, if_pos rfl]
    · unfold f_M_text
      rw [pM_isText_f hX, clS, if_pos rfl]
theorem cs_put : CS (f_C_put n X Y V) (f_M_put n X Y V) := by
  intro s R
  rcases rngC (x := X) 4 with ⟨x, hx, rfl⟩ | hX
  · rcases R.2.1 x hx with ⟨m, m1, m2, m3, m4⟩ | ⟨m1, m2⟩
    · rcases rngC (x := Y) m (by omega) with ⟨j, hj, rfl⟩ | hY
      · obtain ⟨B, hB⟩ : ∃ B, B = Int8.toInt32 (Int32.toInt8 V) := ⟨_, rfl⟩
        refine ⟨s.2.1 207 (80 * x + j) + 1000, sA s (30 + x) j B, sA (sA s (30 + x) j B) 207 (80 * x + j) B, ?_, ?_, ?_⟩
        · unfold f_C_put
          rw [pC_txtR_t hx m2 m1, clS, if_pos rfl, mb_jn, if_neg (nI_pos (by omega)), rdI hx (by decide), m2, if_pos (nI_lt hj (by omega)), ixI hx (by decide), nI_clamp (by omega), rdI (by omega) (by decide), ixI hx (by decide), wrI (by omega) (by decide), m4 j hj, Int8.toInt8_toInt32, ← hB]
        · have f1 : Fr [] [30 + x] s (sA s (30 + x) j B) := FrA
          have e6 : (sA s (30 + x) j B).2.1 206 x = nI m := by
            rw [f1.2.1 206 (by simp; omega)]; exact m3
          have e7 : (sA s (30 + x) j B).2.1 207 = s.2.1 207 := f1.2.1 207 (by simp; omega)
          unfold f_M_put
          rw [pM_txtR_t hx e6 m1, clS, if_pos (by decide), rdI hx (by decide), e6, pM_in, clS, inI_pt hj (by omega), if_neg (by decide), nI_80, nI_add, rdI (by omega) (by decide), wrI (by omega) (by decide), e7, ← hB]
        · obtain ⟨r1, r2, r3, r4, r, z, w, law, r5⟩ := R
          have F : Fk [] [30, 31, 32, 33, 207] s (sA (sA s (30 + x) j B) 207 (80 * x + j) B) := by
            refine FkT (FrQ (FrA (q := 30 + x)) (by decide) ?_) (FrQ (FrA (q := 207)))
            have : x = 0 ∨ x = 1 ∨ x = 2 ∨ x = 3 := by omega
            rcases this with rfl | rfl | rfl | rfl <;> decide
          have g7 : (sA (sA s (30 + x) j B) 207 (80 * x + j) B).2.1 207 = upd (s.2.1 207) (80 * x + j) B := by
            rw [sA2, if_pos rfl, sA2, if_neg (by omega)]
          have gr : ∀ y, y < 4 → (sA (sA s (30 + x) j B) 207 (80 * x + j) B).2.1 (30 + y) = if y = x then upd (s.2.1 (30 + x)) j B else s.2.1 (30 + y) := by
            intro y hy
            rw [sA2, if_neg (by omega), sA2]
            by_cases c : y = x
            · rw [if_pos (by omega), if_pos c]
            · rw [if_neg (by omega), if_neg c]
          refine ⟨Rows_fr r1 F, Txts_set (x := x) r2 hx ?_ (Or.inl ⟨m, m1, ?_, ?_, ?_⟩), Fnd_fr r3 F, r4, r, z, w, law, Cav_fr r5 F⟩
          · intro r hr hne
            refine ⟨by rw [F.2.1 3 (by decide)], by rw [F.2.1 206 (by decide)], by rw [gr r hr, if_neg hne], fun i hi => ?_⟩
            rw [g7, updI, if_neg]
            rcases Nat.lt_or_gt_of_ne hne with l | l <;> omega
          · rw [F.2.1 3 (by decide)]; exact m2
          · rw [F.2.1 206 (by decide)]; exact m3
          · intro i hi
            rw [gr x hx, if_pos rfl, g7, updI, updI]
            by_cases c : i = j
            · rw [if_pos c, if_pos (by omega)]
            · rw [if_neg c, if_neg (by omega)]
              exact m4 i hi
      · refine ⟨-3, fC 2 s, fM 2 (fC 2 s), ?_, ?_, Rel_found R⟩
        · unfold f_C_put
          rw [pC_txtR_t hx m2 m1, clS, if_pos rfl, mb_jn, rdI hx (by decide), m2]
          simp only [pC_f2, clS]
          rcases hY with h | h
          · rw [if_pos h]
          · rw [if_neg (Int32.not_lt.mpr h)]; split <;> rfl
        · unfold f_M_put
          rw [pM_txtR_t (s := fC 2 s) (m := m) hx m3 m1, clS, if_pos (by decide), rdI hx (by decide), show (fC 2 s).2.1 206 x = nI m from m3, pM_in, clS, inI_pf hY (by omega), if_pos rfl, pM_f2, clS]
    · refine ⟨-3, fC 1 s, fM 1 (fC 1 s), ?_, ?_, Rel_found R⟩
      · unfold f_C_put
        rw [pC_txtR_m hx m1, clS, if_neg (by decide)]
      · unfold f_M_put
        rw [pM_txtR_m (s := fC 1 s) hx m2, clS, if_neg (by decide)]
  · refine ⟨-1, s, s, ?_, ?_, R⟩
    · unfold f_C_put
      rw [pC_txtR_f hX, clS, if_neg (by decide)]
    · unfold f_M_put
      rw [pM_txtR_f hX, clS, if_neg (by decide)]
end RE
