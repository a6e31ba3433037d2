/-! the pure part: the handing that holds longest, the calmest -/
section TC
variable {s t u : mb_T} {n p a b q m i c k x y j l h K d G : Nat} {z : zT} {w w2 : wT} {lf r : Bool} {B : bT} {pa : Nat → Nat} {fs : List (Nat × Nat)} {as : List Nat} {v X Y law : Int32}
theorem pS_start (hn : 200 ≤ n) (h1 : 1 ≤ zP z) (hG : G ≤ 6) (A : HA z w s) (R : wrg z w) (S : HSr lf G B s) : ∃ u, f_S_start n s = some u ∧ HSr lf G (if ovr z w = true then B else srch lf G z G 0 w (fun _ => 0) B) u ∧ Fr [(40, 2), (40, 4), (40, 5), (60, 4), (60, 5)] [48, 49, 56, 61, 64] s u := by
  unfold f_S_start
  cases ho : ovr z w with
  | true =>
    refine ⟨s, ?_, S, FrR⟩
    rw [qA_o1 hn A ho, clS, if_neg (by decide)]
  | false =>
    obtain ⟨u, u1, u2, u3, u4, u5, u6⟩ := pS_hand (lf := lf) hn h1 hG G 10 0 w (fun _ => 0) B s (by omega) (by omega) A R S (fun i hi => by omega)
    refine ⟨u, ?_, u3, u4⟩
    rw [qA_o0 hn A ho, clS, if_pos rfl, show f_S_handFrom n 10 0 s = some u from u1, cwS2]
theorem cs_longest (hn : 200 ≤ n) : CS (f_C_longest n X) (f_M_longest n X) := by
  intro s R
  obtain ⟨-, -, -, r4, r, z, w, law, H⟩ := id R
  have h5 := Cav5 H
  obtain ⟨p1, p2⟩ := CavP H
  rcases rngC (x := X) 6 with ⟨x, hx, rfl⟩ | hX
  · by_cases h0 : zP z = 0
    · refine ⟨-4, s, s, ?_, ?_, R⟩
      · unfold f_C_longest
        rw [pC_isRow_t hx, clS, if_neg (by decide), p1, h0, if_pos (by decide)]
      · unfold f_M_longest
        rw [pM_isRow_t hx, clS, if_neg (by decide), p2, h0, if_pos (by decide)]
    · have hne : ¬ nI (zP z) = 0 := by rw [p0 h5]; exact h0
      obtain ⟨t, t1, t2, t3, t4⟩ := q_begin hn (CavV H) H.1
      obtain ⟨B0, hB0⟩ : ∃ B0 : bT, B0 = (0, t.1 60 5, fun _ => 0) := ⟨_, rfl⟩
      obtain ⟨t', et'⟩ : ∃ t', t' = sF (sF (sF t 60 1 1) 60 2 6) 60 4 0 := ⟨_, rfl⟩
      have ft' : Fr [(60, 1), (60, 2), (60, 4)] [] t t' := by
        rw [et']
        exact FrT (FrT (FrF (i := 60) (k := 1)) (FrF (i := 60) (k := 2)) (ks := [(60, 1), (60, 2)]) (cs := [])) (FrF (i := 60) (k := 4))
      have S0 : HSr true 6 B0 t' := by
        rw [et', hB0]
        exact ⟨rfl, rfl, rfl, rfl, fun i hi => by
          have : (0 : Int32).toNatClampNeg = 0 := by decide
          have hi : i < (0 : Int32).toNatClampNeg := hi
          omega⟩
      obtain ⟨u, u1, u2, u3⟩ := pS_start hn (show 1 ≤ zP z by omega) (show 6 ≤ 6 by omega) (HAfr t3 ft') (CavR H) S0
      obtain ⟨B, hB⟩ : ∃ B, B = if ovr z w = true then B0 else srch true 6 z 6 0 w (fun _ => 0) B0 := ⟨_, rfl⟩
      rw [← hB] at u2
      have Fu : Fk qF qA s u := FkT (FkT (FrQ t2) (FrQ ft')) (FrQ u3)
      have Fu2 : Fk [(40, 0), (40, 1), (40, 2), (40, 3), (40, 4), (40, 5), (40, 6), (60, 1), (60, 2), (60, 4), (60, 5)] [47, 48, 49, 50, 51, 52, 53, 54, 55, 56, 61, 64] s u := FkT (FkT (FrQ t2) (FrQ ft')) (FrQ u3)
      have MB : ∀ S : mb_T, HM z w S → ∃ v, f_M_longOn n 10 0 (sF S 200 37 0) = some v ∧ HM z w v ∧ mBl B v ∧ okL B ∧ Fr [(200, 11), (200, 24), (200, 25), (200, 37)] [213, 228, 234, 235, 236] S v := by
        intro S M
        have M1 : HM z w (sF S 200 37 0) := HMfr M FrF
        have mB0 : mBl B0 (sF S 200 37 0) := by
          rw [hB0]
          refine ⟨rfl, fun i hi => ?_⟩
          have : (0 : Int32).toNatClampNeg = 0 := by decide
          have hi : i < (0 : Int32).toNatClampNeg := hi
          omega
        have ok0 : okL B0 := by rw [hB0]; exact ⟨0, by omega, rfl⟩
        rw [hB]
        cases ho : ovr z w with
        | true =>
          rw [if_pos rfl]
          refine ⟨sF S 200 37 0, ?_, M1, mB0, ok0, FrI FrF⟩
          show f_M_longOn_b n (f_M_longOn n 9) 0 (sF S 200 37 0) = _
          unfold f_M_longOn_b
          rw [qM_o1 hn M1 ho, clS]
          simp only [mb_jn]
          rw [if_neg (by decide), if_pos (by decide), show (sF S 200 37 0).1 200 37 = 0 from rfl, if_pos (by decide), if_neg (by decide), qM_o1 hn M1 ho, clS, if_neg (by decide)]
        | false =>
          rw [if_neg (by decide)]
          obtain ⟨v, v1, v2, v3, v4, v5, -, -⟩ := pM_long hn (CavZ H) (show 1 ≤ zP z by omega) 6 10 0 w (fun _ => 0) B0 (sF S 200 37 0) (by omega) (by omega) M1 (CavR H) ho mB0 ok0 (fun i hi => by omega)
          exact ⟨v, v1, v2, v3, v4, FrT (FrF (i := 200) (k := 37)) v5⟩
      obtain ⟨-, -, -, -, ⟨L, hL, eL⟩, -⟩ := MB s (CavM H)
      have e4 : u.1 60 4 = nI L := by rw [u2.2.2.1, eL]
      obtain ⟨g, hg⟩ : ∃ g, g = va_cpy (u.2.1 64) (u.2.1 (20 + x)) 0 0 L := ⟨_, rfl⟩
      have F1 : Fk qF qA2 s (rowC x L g u) := FkT (FkI Fu) (FkI (rowC_fk hx))
      have F12 : Fk [(40, 0), (40, 1), (40, 2), (40, 3), (40, 4), (40, 5), (40, 6), (60, 1), (60, 2), (60, 4), (60, 5)] [1, 20, 21, 22, 23, 24, 25, 47, 48, 49, 50, 51, 52, 53, 54, 55, 56, 61, 64] s (rowC x L g u) := FkT (FkI Fu2) (FkI (rowC_fk hx))
      have Mu := HMfk (CavM H) F12 (by decide) (by decide)
      obtain ⟨o, o1, o2, o3, o4, o5⟩ := MB (rowC x L g u) Mu
      have e37 : o.1 200 37 = nI L := by rw [o3.1, eL]
      obtain ⟨Gm, hGm⟩ : ∃ Gm, Gm = va_cpy (o.2.1 236) (va_cpy (fun _ => 0) (o.2.1 204) 0 (60 * x) 60) 0 (60 * x) L := ⟨_, rfl⟩
      refine ⟨nI L, rowC x L g u, rowM x L Gm o, ?_, ?_, Rel_fill R H Fu hx (by omega) (FrQ o5) o2 ?_ ?_ ?_ ?_ ?_⟩
      · unfold f_C_longest f_S_findLongest
        rw [pC_isRow_t hx, clS, if_neg (by decide), p1, if_neg hne, t1, cwS2, bdS, bdS, bdS, ← et', u1, cwS2, cwS2, e4, pC_fill hx (by omega) (by omega) (by decide), cwS2, ← hg]
        have : (rowC x L g u).1 60 4 = nI L := e4
        rw [this]
      · unfold f_M_longest
        rw [pM_isRow_t hx, clS, if_neg (by decide), Mu.2.1, if_neg hne, bdS, o1, cwS2, e37, pM_lay hn hx hL, cwS2, ← hGm]
        have : (rowM x L Gm o).1 200 37 = nI L := e37
        rw [this]
      · rw [o5.2.1 223 (by decide), F12.2.1 223 (by decide)]; exact H.2.2.2.1
      · rw [o5.1 200 22 (by decide), F12.1 200 22 (by decide)]; exact H.2.2.2.2.1
      · rw [o5.1 0 14 (by decide), o5.1 200 2 (by decide), F12.1 0 14 (by decide), F12.1 200 2 (by decide)]; exact r4
      · intro i hi
        have hi2 : i < B.1.toNatClampNeg := by rw [eL, nI_clamp (by omega)]; exact hi
        rw [hGm, cpy_i hi, hg, cpy00 hi, show 0 + i = i by omega, u2.2.2.2.2 i hi2, o3.2 i hi2]
      · intro j hj
        rw [hGm, cpy_o (by omega), cpy_o hj]
  · refine ⟨-1, s, s, ?_, ?_, R⟩
    · unfold f_C_longest
      rw [pC_isRow_f hX, clS, if_pos rfl]
    · unfold f_M_longest
      rw [pM_isRow_f hX, clS, if_pos rfl]
theorem cs_calmest (hn : 200 ≤ n) : CS (f_C_calmest n Y X) (f_M_calmest n Y X) := by
  intro s R
  obtain ⟨-, -, -, r4, r, z, w, law, H⟩ := id R
  have h5 := Cav5 H
  obtain ⟨p1, p2⟩ := CavP H
  rcases rngC (x := Y) 7 with ⟨G, hG, rfl⟩ | hY
  · have eg : inI (nI G) 0 6 = 1 := inI_t (a := 0) (b := 6) (by omega) (by omega) (by decide)
    have eg6 : ¬ (6 : Int32) < nI G := nI_nlt (a := 6) (by omega) (by decide)
    rcases rngC (x := X) 6 with ⟨x, hx, rfl⟩ | hX
    · by_cases h0 : zP z = 0
      · refine ⟨-4, s, s, ?_, ?_, R⟩
        · unfold f_C_calmest
          rw [if_neg (nI_pos (by omega)), if_neg eg6, pC_isRow_t hx, clS, if_neg (by decide), p1, h0, if_pos (by decide)]
        · unfold f_M_calmest
          rw [pM_in, clS, eg, if_neg (by decide), pM_isRow_t hx, clS, if_neg (by decide), p2, h0, if_pos (by decide)]
      · have hne : ¬ nI (zP z) = 0 := by rw [p0 h5]; exact h0
        obtain ⟨t, t1, t2, t3, t4⟩ := q_begin hn (CavV H) H.1
        obtain ⟨B0, hB0⟩ : ∃ B0 : bT, B0 = (-1, 100, fun _ => 0) := ⟨_, rfl⟩
        have em : (if 6 < nI G then 6 else nI G : Int32) = nI G := if_neg eg6
        obtain ⟨t', et'⟩ : ∃ t', t' = sF (sF (sF (sF t 60 1 0) 60 2 (nI G)) 60 4 (-1)) 60 5 100 := ⟨_, rfl⟩
        have ft' : Fr [(60, 1), (60, 2), (60, 4), (60, 5)] [] t t' := by
          rw [et']
          exact FrT (FrT (FrT (FrF (i := 60) (k := 1)) (FrF (i := 60) (k := 2)) (ks := [(60, 1), (60, 2)]) (cs := [])) (FrF (i := 60) (k := 4)) (ks := [(60, 1), (60, 2), (60, 4)]) (cs := [])) (FrF (i := 60) (k := 5))
        have cl0 : (-1 : Int32).toNatClampNeg = 0 := by decide
        have S0 : HSr false G B0 t' := by
          rw [et', hB0]
          exact ⟨rfl, rfl, rfl, rfl, fun i hi => by
            have hi : i < (-1 : Int32).toNatClampNeg := hi
            omega⟩
        obtain ⟨u, u1, u2, u3⟩ := pS_start hn (show 1 ≤ zP z by omega) (show G ≤ 6 by omega) (HAfr t3 ft') (CavR H) S0
        obtain ⟨B, hB⟩ : ∃ B, B = if ovr z w = true then B0 else srch false G z G 0 w (fun _ => 0) B0 := ⟨_, rfl⟩
        rw [← hB] at u2
        have Fu : Fk qF qA s u := FkT (FkT (FrQ t2) (FrQ ft')) (FrQ u3)
        have Fu2 : Fk [(40, 0), (40, 1), (40, 2), (40, 3), (40, 4), (40, 5), (40, 6), (60, 1), (60, 2), (60, 4), (60, 5)] [47, 48, 49, 50, 51, 52, 53, 54, 55, 56, 61, 64] s u := FkT (FkT (FrQ t2) (FrQ ft')) (FrQ u3)
        have MB : ∀ S : mb_T, HM z w S → ∃ v, f_M_calmOn n 10 0 (nI G) (sF S 200 38 1048576) = some v ∧ HM z w v ∧ mBc B v ∧ okC G B ∧ Fr [(200, 11), (200, 24), (200, 25), (200, 38)] [213, 228, 234, 235, 236] S v := by
          intro S M
          have M1 : HM z w (sF S 200 38 1048576) := HMfr M FrF
          have mB0 : mBc B0 (sF S 200 38 1048576) := by
            rw [hB0]
            refine ⟨rfl, fun i hi => ?_⟩
            have hi : i < (-1 : Int32).toNatClampNeg := hi
            omega
          have ok0 : okC G B0 := by rw [hB0]; exact Or.inl ⟨rfl, rfl⟩
          rw [hB]
          cases ho : ovr z w with
          | true =>
            rw [if_pos rfl]
            exact ⟨sF S 200 38 1048576, cal_over (q := 9) hn M1 ho, M1, mB0, ok0, FrI FrF⟩
          | false =>
            rw [if_neg (by decide)]
            obtain ⟨v, v1, v2, v3, v4, v5, -, -⟩ := pM_calm hn (CavZ H) (show 1 ≤ zP z by omega) (show G ≤ 6 by omega) G 10 0 w (fun _ => 0) B0 (sF S 200 38 1048576) (by omega) (by omega) M1 (CavR H) ho mB0 ok0 (fun i hi => by omega)
            exact ⟨v, v1, v2, v3, v4, FrT (FrF (i := 200) (k := 38)) v5⟩
        obtain ⟨-, -, -, -, ok, -⟩ := MB s (CavM H)
        have CC : f_C_calmest n (nI G) (nI x) s = if 0 ≤ (u.1 60 4) then (mb_cw (f_C_fillRow n (nI x) 64 6 (u.1 60 4) u) fun s_13 => some ((s_13.1 60 5), s_13)) else some ((-9), u) := by
          unfold f_C_calmest f_S_findCalmest
          rw [if_neg (nI_pos (by omega)), if_neg eg6, pC_isRow_t hx, clS, if_neg (by decide), p1, if_neg hne, t1, cwS2, em, bdS, bdS, bdS, bdS, ← et', u1, cwS2, cwS2]
        rcases ok with ⟨k1, k2⟩ | ⟨k1, f, f1, f2⟩
        · have Mu := HMfk (CavM H) Fu2 (by decide) (by decide)
          obtain ⟨o, o1, o2, o3, o4, o5⟩ := MB u Mu
          have F9 : Fk [(40, 0), (40, 1), (40, 2), (40, 3), (40, 4), (40, 5), (40, 6), (60, 1), (60, 2), (60, 4), (60, 5), (200, 11), (200, 24), (200, 25), (200, 38)] [47, 48, 49, 50, 51, 52, 53, 54, 55, 56, 61, 64, 213, 228, 234, 235, 236] s o := FkT (FkI Fu2) (FrQ o5)
          refine ⟨-9, u, o, ?_, ?_, Rel_qs R H F9 o2 (by rw [F9.1 0 14 (by decide), F9.1 200 2 (by decide)]; exact r4)⟩
          · rw [CC, u2.2.2.1, k1, if_neg (by decide)]
          · unfold f_M_calmest
            rw [pM_in, clS, eg, if_neg (by decide), pM_isRow_t hx, clS, if_neg (by decide), Mu.2.1, if_neg hne, bdS, o1, cwS2, o3.1, if_pos k1, if_pos rfl]
        · have e4 : u.1 60 4 = nI G := by rw [u2.2.2.1, k1]
          have e5 : u.1 60 5 = nI f := by rw [u2.2.2.2.1, f2]
          obtain ⟨g, hg⟩ : ∃ g, g = va_cpy (u.2.1 64) (u.2.1 (20 + x)) 0 0 G := ⟨_, rfl⟩
          have F12 : Fk [(40, 0), (40, 1), (40, 2), (40, 3), (40, 4), (40, 5), (40, 6), (60, 1), (60, 2), (60, 4), (60, 5)] [1, 20, 21, 22, 23, 24, 25, 47, 48, 49, 50, 51, 52, 53, 54, 55, 56, 61, 64] s (rowC x G g u) := FkT (FkI Fu2) (FkI (rowC_fk hx))
          have Mu := HMfk (CavM H) F12 (by decide) (by decide)
          obtain ⟨o, o1, o2, o3, o4, o5⟩ := MB (rowC x G g u) Mu
          have e38 : o.1 200 38 = nI f := by rw [o3.1, k1, if_neg (nI_m1 (by omega)), f2]
          obtain ⟨Gm, hGm⟩ : ∃ Gm, Gm = va_cpy (o.2.1 236) (va_cpy (fun _ => 0) (o.2.1 204) 0 (60 * x) 60) 0 (60 * x) G := ⟨_, rfl⟩
          refine ⟨nI f, rowC x G g u, rowM x G Gm o, ?_, ?_, Rel_fill R H Fu hx (by omega) (FrQ o5) o2 ?_ ?_ ?_ ?_ ?_⟩
          · rw [CC, e4, if_pos (nI_pos' (by omega)), pC_fill hx (by omega) (by omega) (by decide), cwS2, ← hg]
            have : (rowC x G g u).1 60 5 = nI f := e5
            rw [this]
          · unfold f_M_calmest
            rw [pM_in, clS, eg, if_neg (by decide), pM_isRow_t hx, clS, if_neg (by decide), Mu.2.1, if_neg hne, bdS, o1, cwS2, e38, if_neg (show ¬ nI f = (1048576 : Int32) by rw [show (1048576 : Int32) = nI 1048576 from rfl, nI_eq (by omega) (by decide)]; omega), pM_lay hn hx (by omega), cwS2, ← hGm]
            have : (rowM x G Gm o).1 200 38 = nI f := e38
            rw [this]
          · rw [o5.2.1 223 (by decide), F12.2.1 223 (by decide)]; exact H.2.2.2.1
          · rw [o5.1 200 22 (by decide), F12.1 200 22 (by decide)]; exact H.2.2.2.2.1
          · rw [o5.1 0 14 (by decide), o5.1 200 2 (by decide), F12.1 0 14 (by decide), F12.1 200 2 (by decide)]; exact r4
          · intro i hi
            have hi2 : i < B.1.toNatClampNeg := by rw [k1, nI_clamp (by omega)]; exact hi
            rw [hGm, cpy_i hi, hg, cpy00 hi, show 0 + i = i by omega, u2.2.2.2.2 i hi2, o3.2 i hi2]
          · intro j hj
            rw [hGm, cpy_o (by omega), cpy_o hj]
    · refine ⟨-1, s, s, ?_, ?_, R⟩
      · unfold f_C_calmest
        rw [if_neg (nI_pos (by omega)), if_neg eg6, pC_isRow_f hX, clS, if_pos rfl]
      · unfold f_M_calmest
        rw [pM_in, clS, eg, if_neg (by decide), pM_isRow_f hX, clS, if_pos rfl]
  · refine ⟨-1, s, s, ?_, ?_, R⟩
    · unfold f_C_calmest
      rcases hY with h | h
      · rw [if_pos h]
      · rw [if_pos (show (6 : Int32) < Y from lt_le (a := 6) h (by decide) (by decide))]; split <;> rfl
    · unfold f_M_calmest
      rw [pM_in, clS, show inI Y 0 6 = 0 from inI_f (b := 6) hY (by decide), if_pos rfl]
end TC
