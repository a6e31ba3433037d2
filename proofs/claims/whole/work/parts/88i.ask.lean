/-! the pure part: how long, how often, the best law -/
abbrev aA : List Nat := [47, 48, 49, 50, 51, 52, 53, 54, 55, 56]
abbrev cF : List (Nat × Nat) := [(0, 14), (40, 0), (40, 1), (40, 2), (40, 3), (40, 4), (40, 5), (40, 6)]
abbrev mF : List (Nat × Nat) := [(200, 11), (200, 24), (200, 25), (200, 31), (200, 33), (200, 43)]
abbrev mA : List Nat := [205, 213, 228, 230, 232]
abbrev cmF : List (Nat × Nat) := [(0, 14), (40, 0), (40, 1), (40, 2), (40, 3), (40, 4), (40, 5), (40, 6), (200, 11), (200, 24), (200, 25), (200, 31), (200, 33), (200, 43)]
abbrev cmA : List Nat := [47, 48, 49, 50, 51, 52, 53, 54, 55, 56, 205, 213, 228, 230, 232]
/-- over behind so many, or not -/
def HO (v : Int32) : Prop := v = -9 ∨ ∃ k, k ≤ 100 ∧ v = nI k
theorem hol_o {z : zT} {law : Int32} {w : wT} {m : Nat} (hm : m ≤ 100) : HO (hol z law w m) := by
  unfold hol
  have := @sN_p (fun k => ovr z (wi z law w k)) m
  split
  · exact Or.inr ⟨_, by omega, rfl⟩
  · exact Or.inl rfl
def lng (h t : Int32) : Bool := !decide (t = -9) && (decide (h = -9) || !decide (h ≤ t))
section RK
variable {s t u : mb_T} {n p a b q m i c c1 k x y j l h K mi : Nat} {v : Int32} {z : zT} {w w2 : wT} {r : Bool} {law law2 X Y V U T : Int32} {fs gs ks : List (Nat × Nat)} {as bs cs : List Nat} {hM nM hM2 nM2 : Nat → Int32} {W : Nat → wT} {hd : Nat → Nat}
theorem pC_lng : f_C_isLonger n X Y s = some ((if lng X Y = true then 1 else 0 : Int32), s) := by
  unfold f_C_isLonger lng mb_bz
  by_cases h1 : Y = -9 <;> by_cases h2 : X = -9 <;> by_cases h3 : X ≤ Y <;> simp [h1, h2, h3]
theorem lng_m (hX : HO X) (hY : HO Y) : ((if X = (-9) then 1048576 else X : Int32) ≤ (if Y = (-9) then 1048576 else Y : Int32)) = (lng X Y = false) := by
  unfold lng
  rcases hX with rfl | ⟨a, a1, rfl⟩ <;> rcases hY with rfl | ⟨b, b1, rfl⟩
  · simp
  · have h9 : ¬ nI b = -9 := nI_m9 (by omega)
    have : ¬ (1048576 : Int32) ≤ nI b := nI_ge (a := b) (b := 1048576) (by omega) (by decide)
    simp [h9, this]
  · have h9 : ¬ nI a = -9 := nI_m9 (by omega)
    have : nI a ≤ (1048576 : Int32) := nI_le (b := 1048576) (by omega) (by decide)
    simp [h9, this]
  · have h9 : ¬ nI a = -9 := nI_m9 (by omega)
    have h8 : ¬ nI b = -9 := nI_m9 (by omega)
    simp [h9, h8]
theorem pM_lb : f_M_longBy n X s = some ((if X = (-9) then 1048576 else X : Int32), s) := rfl
theorem cs_holds (hn : 200 ≤ n) : CS (f_C_holds n X) (f_M_holds n X) := by
  intro s R
  obtain ⟨-, -, -, r4, r, z, w, law, H⟩ := id R
  have h5 := Cav5 H
  obtain ⟨p1, p2⟩ := CavP H
  rcases rngC (x := X) 4 with ⟨x, hx, rfl⟩ | hX
  · by_cases h0 : zP z = 0
    · refine ⟨-4, s, s, ?_, ?_, R⟩
      · unfold f_C_holds
        rw [pC_isLaw_t hx, clS, if_neg (by decide), p1, h0, if_pos (by decide)]
      · unfold f_M_holds
        rw [pM_in, clS, inI3 hx, if_neg (by decide), p2, h0, if_pos (by decide)]
    · have hne : ¬ nI (zP z) = 0 := by rw [p0 h5]; exact h0
      obtain ⟨t, t1, t2, t3, t4⟩ := q_begin hn (CavV H) H.1
      obtain ⟨u, u1, u2, u3⟩ := qA_howLong (m := 100) hn t3 (CavZ H) (CavW H) (by omega) (lawok_n hx) (by decide)
      have u1 : f_A_howLong n (nI x) 100 t = some (hol z (nI x) w 100, u) := u1
      have Fu : Fk cF aA s u := FkT (FrQ t2) (FrQ u2)
      cases ho : ovr z (wi z (nI x) w (sN (fun k => ovr z (wi z (nI x) w k)) 100)) with
      | false =>
        have eh : hol z (nI x) w 100 = -9 := by unfold hol; rw [ho, if_neg (by decide)]
        have Mu := HMfk (CavM H) Fu (by decide) (by decide)
        obtain ⟨v, v1, v2, v3, v4⟩ := pM_holdsOf hn Mu (CavZ H) (CavW H) (CavO H) (by omega) (lawok_n hx)
        have Fv : Fk cmF cmA s v := FkT (FkI Fu) (FrQ v2)
        refine ⟨-9, u, v, ?_, ?_, Rel_qs R H Fv v3 ?_⟩
        · unfold f_C_holds
          rw [pC_isLaw_t hx, clS, if_neg (by decide), p1, if_neg hne, t1, cwS2, u1, clS, eh, if_pos rfl]
        · unfold f_M_holds
          rw [pM_in, clS, inI3 hx, if_neg (by decide), Mu.2.1, if_neg hne, v1, clS, eh, if_pos rfl]
        · have F9 : Fk (bgF ++ mF) cmA s v := FkT (FkT (FrQ t2) (FrQ u2)) (FrQ v2)
          rw [F9.1 0 14 (by decide), F9.1 200 2 (by decide)]; exact r4
      | true =>
        have hk := @sN_p (fun k => ovr z (wi z (nI x) w k)) 100
        generalize hK : sN (fun k => ovr z (wi z (nI x) w k)) 100 = K at *
        have eh : hol z (nI x) w 100 = nI K := by unfold hol; rw [hK, ho, if_pos rfl]
        have h9 : ¬ nI K = -9 := nI_m9 (by omega)
        obtain ⟨B, hB⟩ : ∃ B, B = whoS (wi z (nI x) w K).1 (zS z) (zP z) := ⟨_, rfl⟩
        have Fu2 : Fk cF aA s (sF u 0 14 B) := FkT Fu (FrQ FrF)
        have Mu := HMfk (CavM H) Fu2 (by decide) (by decide)
        obtain ⟨v, v1, v2, v3, v4⟩ := pM_holdsOf hn Mu (CavZ H) (CavW H) (CavO H) (by omega) (lawok_n hx)
        rw [hK, ← hB] at v4
        have Fv : Fk cmF cmA s v := FkT (FkI Fu2) (FrQ v2)
        have e14 : v.1 0 14 = B := by rw [v2.1 0 14 (by decide)]; rfl
        refine ⟨nI K, sF u 0 14 B, sF v 200 2 (v.1 0 14), ?_, ?_, Rel_qa R H Fv v3⟩
        · unfold f_C_holds
          rw [pC_isLaw_t hx, clS, if_neg (by decide), p1, if_neg hne, t1, cwS2, u1, clS, eh, if_neg h9, qA_whoScream hn u3, clS, bdS, ← hB]
        · unfold f_M_holds
          rw [pM_in, clS, inI3 hx, if_neg (by decide), Mu.2.1, if_neg hne, v1, clS, eh, if_neg h9, v4, e14]
          rfl
  · refine ⟨-1, s, s, ?_, ?_, R⟩
    · unfold f_C_holds
      rw [pC_isLaw_f hX, clS, if_pos rfl]
    · unfold f_M_holds
      rw [pM_in, clS, inI3f hX, if_pos rfl]
theorem cs_worst (hn : 200 ≤ n) : CS (f_C_worst n X) (f_M_worst n X) := by
  intro s R
  obtain ⟨-, -, -, r4, r, z, w, law, H⟩ := id R
  have h5 := Cav5 H
  obtain ⟨p1, p2⟩ := CavP H
  rcases rngC (x := X) 61 with ⟨m, hm, rfl⟩ | hX
  · by_cases h0 : zP z = 0
    · refine ⟨-4, s, s, ?_, ?_, R⟩
      · unfold f_C_worst
        rw [pC_isSpan, clS, inI60 hm, if_neg (by decide), p1, h0, if_pos (by decide)]
      · unfold f_M_worst
        rw [pM_isSpan, clS, inI60 hm, if_neg (by decide), p2, h0, if_pos (by decide)]
    · have hne : ¬ nI (zP z) = 0 := by rw [p0 h5]; exact h0
      obtain ⟨t, t1, t2, t3, t4⟩ := q_begin hn (CavV H) H.1
      obtain ⟨l1, l2⟩ := CavL H
      obtain ⟨u, u1, u2, u3, u4⟩ := qA_goOn (m := m) hn t3 (CavZ H) (CavW H) (by omega) l2 (by omega)
      have hk := @sN_p (fun k => ovr z (wi z law w k)) m
      generalize hK : sN (fun k => ovr z (wi z law w k)) m = K at u1 u3 u4 hk
      have U3 : HA z (wi z law w K) (sF u 0 14 (nI (gW (wi z law w K).1 (zP z - 1)))) := HAfr u3 FrF
      have Fu : Fk cF aA s (sF u 0 14 (nI (gW (wi z law w K).1 (zP z - 1)))) := FkT (FkT (FrQ t2) (FrQ u2)) (FrQ FrF)
      have Mu := HMfk (CavM H) Fu (by decide) (by decide)
      obtain ⟨v, v1, v2, v3, v4⟩ := pM_putAside hn Mu
      obtain ⟨y, y1, y2, y3, y4⟩ := qM_pass (v := -9) (m := m) hn v3 (CavZ H) (CavW H) (CavO H) (by omega) l2 (by rw [v2.1 200 10 (by decide), Fu.1 200 10 (by decide)]; exact H.2.2.2.2.2.2.1 (by omega)) (by omega)
      rw [hK] at y3
      obtain ⟨o, o1, o2, o3⟩ := pM_comeBack hn y3 (HPfr v4 y2)
      have Fo : Fk cmF cmA s o := FkT (FkT (FkT (FkI Fu) (FrQ v2)) (FrQ y2)) (FrQ o2)
      have e14 : o.1 0 14 = nI (gW (wi z law w K).1 (zP z - 1)) := by rw [o2.1 0 14 (by decide), y2.1 0 14 (by decide), v2.1 0 14 (by decide)]; rfl
      refine ⟨(wi z law w K).1 (gW (wi z law w K).1 (zP z - 1)), sF u 0 14 (nI (gW (wi z law w K).1 (zP z - 1))), _, ?_, ?_, Rel_qa R H Fo o3⟩
      · unfold f_C_worst
        rw [pC_isSpan, clS, inI60 hm, if_neg (by decide), p1, if_neg hne, t1, cwS2, t2.1 100 2 (by decide), l1, u1, clS, qA_mostAfraid hn u3 (by omega), clS, bdS, qA_greatestFear hn U3 (by omega), clS]
      · unfold f_M_worst
        rw [pM_isSpan, clS, inI60 hm, if_neg (by decide), Mu.2.1, if_neg hne, v1, cwS2, y1, cwS2, qM_greatest hn y3 (by omega), clS, qM_grFear y3 (by omega), o1, cwS2, e14]
        rfl
  · refine ⟨-1, s, s, ?_, ?_, R⟩
    · unfold f_C_worst
      rw [pC_isSpan, clS, inI60f hX, if_pos rfl]
    · unfold f_M_worst
      rw [pM_isSpan, clS, inI60f hX, if_pos rfl]
theorem cs_often (hn : 200 ≤ n) : CS (f_C_often n X Y) (f_M_often n X Y) := by
  intro s R
  obtain ⟨-, -, -, r4, r, z, w, law, H⟩ := id R
  have h5 := Cav5 H
  obtain ⟨p1, p2⟩ := CavP H
  rcases rngC (x := X) (zP z) (by omega) with ⟨x, hx, rfl⟩ | hX
  · rcases rngC (x := Y) 61 with ⟨m, hm, rfl⟩ | hY
    · obtain ⟨t, t1, t2, t3, t4⟩ := q_begin hn (CavV H) H.1
      obtain ⟨l1, l2⟩ := CavL H
      obtain ⟨u, u1, u2, u3, u4⟩ := qA_goOn (m := m) hn t3 (CavZ H) (CavW H) (by omega) l2 (by omega)
      have hk := @sN_p (fun k => ovr z (wi z law w k)) m
      generalize hK : sN (fun k => ovr z (wi z law w k)) m = K at u1 u3 u4 hk
      have Fu : Fk bgF aA s u := FkT (FrQ t2) (FrQ u2)
      have Mu := HMfk (CavM H) Fu (by decide) (by decide)
      obtain ⟨v, v1, v2, v3, v4⟩ := pM_putAside hn Mu
      obtain ⟨y, y1, y2, y3, y4⟩ := qM_pass (v := nI x) (m := m) hn v3 (CavZ H) (CavW H) (CavO H) (by omega) l2 (by rw [v2.1 200 10 (by decide), Fu.1 200 10 (by decide)]; exact H.2.2.2.2.2.2.1 (by omega)) (by omega)
      rw [hK] at y3 y4
      obtain ⟨o, o1, o2, o3⟩ := pM_comeBack hn y3 (HPfr v4 y2)
      have Fo : Fk (bgF ++ mF) cmA s o := FkT (FkT (FkT (FkI Fu) (FrQ v2)) (FrQ y2)) (FrQ o2)
      refine ⟨cntH z law w (nI x) K, u, o, ?_, ?_, Rel_qs R H Fo o3 (by rw [Fo.1 0 14 (by decide), Fo.1 200 2 (by decide)]; exact r4)⟩
      · unfold f_C_often
        rw [pC_isOne_t p1 h5 hx, clS, if_neg (by decide), pC_isSpan, clS, inI60 hm, if_neg (by decide), t1, cwS2, t2.1 100 2 (by decide), l1, u1, clS]
        refine lp (F := fun f (t : Int32 × Int32 × mb_T) => f_C_often_50 n (fun x_20 x_21 s_22 => some (x_20, s_22)) (nI x) (nI K) f t.1 t.2.1 t.2.2) (fun i => (cntH z law w (nI x) i, nI i, u)) K ?_ ?_ n (by omega)
        · intro i hi f
          dsimp only
          rw [f_C_often_50.eq_2, if_neg (npi (by omega) hi), rdI (by omega) (by decide), u4 i hi, nI_1, cntH_s]
        · intro f
          dsimp only
          rw [f_C_often_50.eq_2, if_pos npp]
      · unfold f_M_often
        rw [pM_isOne_t Mu.2.1 h5 hx, clS, if_neg (by decide), pM_isSpan, clS, inI60 hm, if_neg (by decide), v1, cwS2, y1, cwS2, o1, cwS2, o2.1 200 33 (by decide), y4]
    · refine ⟨-1, s, s, ?_, ?_, R⟩
      · unfold f_C_often
        rw [pC_isOne_t p1 h5 hx, clS, if_neg (by decide), pC_isSpan, clS, inI60f hY, if_pos rfl]
      · unfold f_M_often
        rw [pM_isOne_t p2 h5 hx, clS, if_neg (by decide), pM_isSpan, clS, inI60f hY, if_pos rfl]
  · refine ⟨-1, s, s, ?_, ?_, R⟩
    · unfold f_C_often
      rw [pC_isOne_f p1 hX, clS, if_pos rfl]
    · unfold f_M_often
      rw [pM_isOne_f p2 h5 hX, clS, if_pos rfl]
/-- the best of so many, by lng -/
def bst (g : Nat → Int32) : Nat → Nat × Int32
  | 0 => (0, g 0)
  | i + 1 => if lng (g (i + 1)) (bst g i).2 = true then (i + 1, g (i + 1)) else bst g i
theorem bst_o {g : Nat → Int32} (hg : ∀ i, HO (g i)) : ∀ {i : Nat}, HO (bst g i).2
  | 0 => hg 0
  | i + 1 => by
    unfold bst
    split
    · exact hg (i + 1)
    · exact bst_o hg
theorem cs_best (hn : 200 ≤ n) : CS (f_C_best n) (f_M_best n) := by
  intro s R
  obtain ⟨-, -, -, r4, r, z, w, law, H⟩ := id R
  have h5 := Cav5 H
  obtain ⟨p1, p2⟩ := CavP H
  by_cases h0 : zP z = 0
  · refine ⟨-4, s, s, ?_, ?_, R⟩
    · unfold f_C_best
      rw [p1, h0, if_pos (by decide)]
    · unfold f_M_best
      rw [p2, h0, if_pos (by decide)]
  · have hne : ¬ nI (zP z) = 0 := by rw [p0 h5]; exact h0
    obtain ⟨g, hg⟩ : ∃ g : Nat → Int32, g = fun i => hol z (nI i) w 100 := ⟨_, rfl⟩
    have gO : ∀ i, HO (g i) := fun i => by rw [hg]; exact hol_o (by decide)
    have stepC : ∀ t, Fk bgF aA s t → ∀ i, i < 4 → ∃ u u2, f_A_begin n 100 t = some u ∧ f_A_howLong n (nI i) 100 u = some (g i, u2) ∧ Fk bgF aA s u2 := by
      intro t Ft i hi
      obtain ⟨u, u1, u2, u3, u4⟩ := q_begin hn (HVfk (CavV H) Ft) H.1
      obtain ⟨v, v1, v2, v3⟩ := qA_howLong (m := 100) hn u3 (CavZ H) (CavW H) (by omega) (lawok_n hi) (by decide)
      exact ⟨u, v, u1, by rw [hg]; exact v1, FkT (FkT Ft (FrQ u2)) (FrQ v2)⟩
    have stepM : ∀ t0 t, HM z w t0 → Fk mF mA t0 t → HM z w t → ∀ i, i < 4 → ∃ u, f_M_holdsOf n (nI i) t = some (g i, u) ∧ HM z w u ∧ Fk mF mA t0 u := by
      intro t0 t _ Ft Mt i hi
      obtain ⟨v, v1, v2, v3, v4⟩ := pM_holdsOf hn Mt (CavZ H) (CavW H) (CavO H) (by omega) (lawok_n hi)
      exact ⟨v, by rw [hg]; exact v1, v3, FkT Ft (FrQ v2)⟩
    have LC : ∃ t, Fk bgF aA s t ∧ f_C_best n s = some (nI (bst g 3).1, sF t 0 14 (bst g 3).2) := by
      obtain ⟨u, u2, e1, e2, e3⟩ := stepC s FkR 0 (by decide)
      have L := lpE (F := fun f (t : (Int32 × Int32 × Int32) × mb_T) => f_C_best_19 n (fun x_16 x_17 x_18 s_19 => mb_bd (sF s_19 0 14 x_17) fun s_20 => some (x_16, s_20)) f t.1.1 t.1.2.1 t.1.2.2 t.2) (R := fun t => some (t.1.1, sF t.2 0 14 t.1.2.1)) (fun i (t : (Int32 × Int32 × Int32) × mb_T) => t.1 = (nI (bst g i).1, (bst g i).2, nI (i + 1)) ∧ Fk bgF aA s t.2) 3 ?_ ?_ (t0 := ((0, g 0, 1), u2)) (f := n - 1) ⟨rfl, e3⟩ (by omega)
      · obtain ⟨⟨⟨a, b, c⟩, t⟩, ⟨p1, p2⟩, p5⟩ := L
        dsimp only at p1 p2 p5
        cases p1
        refine ⟨t, p2, ?_⟩
        have en : n = (n - 1) + 1 := by omega
        unfold f_C_best
        rw [‹s.1 100 0 = nI (zP z)›, if_neg hne]
        rw [show f_C_best_19 n (fun x_16 x_17 x_18 s_19 => mb_bd (sF s_19 0 14 x_17) fun s_20 => some (x_16, s_20)) n 0 0 0 s = f_C_best_19 n (fun x_16 x_17 x_18 s_19 => mb_bd (sF s_19 0 14 x_17) fun s_20 => some (x_16, s_20)) (n - 1 + 1) 0 0 0 s by rw [← en]]
        rw [f_C_best_19.eq_2, if_neg (by decide), e1, cwS2, show f_A_howLong n 0 100 u = some (g 0, u2) from e2, clS, mb_jn, if_pos rfl]
        exact p5
      · rintro i hi ⟨⟨a, b, c⟩, t⟩ ⟨p1, p2⟩
        dsimp only at p1 p2
        cases p1
        obtain ⟨u, u2, e1, e2, e3⟩ := stepC t p2 (i + 1) (by omega)
        refine ⟨((nI (bst g (i + 1)).1, (bst g (i + 1)).2, nI (i + 2)), u2), ⟨rfl, e3⟩, ?_⟩
        intro f
        dsimp only
        have hi0 : ¬ nI (i + 1) = 0 := nI_ne0 (by omega) (by omega)
        rw [f_C_best_19.eq_2, if_neg (show ¬ (4 : Int32) ≤ nI (i + 1) from npi (p := 4) (by decide) (by omega)), e1, cwS2, e2, clS, mb_jn, if_neg hi0, pC_lng, clS, nI_1]
        show _ = f_C_best_19 n _ f (nI (if lng (g (i + 1)) (bst g i).2 = true then (i + 1, g (i + 1)) else bst g i).1) (if lng (g (i + 1)) (bst g i).2 = true then (i + 1, g (i + 1)) else bst g i).2 _ _
        cases lng (g (i + 1)) (bst g i).2 <;> rfl
      · rintro ⟨⟨a, b, c⟩, t⟩ ⟨p1, p2⟩ f
        dsimp only at p1 p2
        cases p1
        dsimp only
        rw [f_C_best_19.eq_2, if_pos (show (4 : Int32) ≤ nI (3 + 1) by decide), bdS]
    obtain ⟨t, Ft, et⟩ := LC
    have Ft2 : Fk cF aA s (sF t 0 14 (bst g 3).2) := FkT (FkI Ft) (FrQ FrF)
    have Mt := HMfk (CavM H) Ft2 (by decide) (by decide)
    have LM : ∀ t0, HM z w t0 → ∃ u, HM z w u ∧ Fk mF mA t0 u ∧ f_M_best n t0 = some (nI (bst g 3).1, sF u 200 2 (bst g 3).2) := by
      intro t0 M0
      obtain ⟨u, e1, e2, e3⟩ := stepM t0 t0 M0 FkR M0 0 (by decide)
      have L := lpE (F := fun f (t : (Int32 × Int32 × Int32) × mb_T) => f_M_best_20 n (fun x_16 x_17 x_18 s_19 => mb_cl (f_M_ask n x_17 x_16 s_19) fun r_22 s_20 => some (r_22, s_20)) f t.1.1 t.1.2.1 t.1.2.2 t.2) (R := fun t => some (t.1.1, sF t.2 200 2 t.1.2.1)) (fun i (t : (Int32 × Int32 × Int32) × mb_T) => t.1 = (nI (bst g i).1, (bst g i).2, nI (i + 1)) ∧ HM z w t.2 ∧ Fk mF mA t0 t.2) 3 ?_ ?_ (t0 := ((0, g 0, 1), u)) (f := n) ⟨rfl, e2, e3⟩ (by omega)
      · obtain ⟨⟨⟨a, b, c⟩, t⟩, ⟨p1, p2, p3⟩, p5⟩ := L
        dsimp only at p1 p2 p3 p5
        cases p1
        refine ⟨t, p2, p3, ?_⟩
        unfold f_M_best
        rw [M0.2.1, if_neg hne, show f_M_holdsOf n 0 t0 = some (g 0, u) from e1, clS]
        exact p5
      · rintro i hi ⟨⟨a, b, c⟩, t⟩ ⟨p1, p2, p3⟩
        dsimp only at p1 p2 p3
        cases p1
        obtain ⟨u, e1, e2, e3⟩ := stepM t0 t M0 p3 p2 (i + 1) (by omega)
        refine ⟨((nI (bst g (i + 1)).1, (bst g (i + 1)).2, nI (i + 2)), u), ⟨rfl, e2, e3⟩, ?_⟩
        intro f
        dsimp only
        rw [f_M_best_20.eq_2, if_neg (show ¬ (4 : Int32) ≤ nI (i + 1) from npi (p := 4) (by decide) (by omega)), e1, clS, pM_lb, clS, pM_lb, clS, nI_1]
        simp only [lng_m (gO (i + 1)) (bst_o gO)]
        show _ = f_M_best_20 n _ f (nI (if lng (g (i + 1)) (bst g i).2 = true then (i + 1, g (i + 1)) else bst g i).1) (if lng (g (i + 1)) (bst g i).2 = true then (i + 1, g (i + 1)) else bst g i).2 _ _
        cases lng (g (i + 1)) (bst g i).2 <;> rfl
      · rintro ⟨⟨a, b, c⟩, t⟩ ⟨p1, p2, p3⟩ f
        dsimp only at p1 p2 p3
        cases p1
        dsimp only
        rw [f_M_best_20.eq_2, if_pos (show (4 : Int32) ≤ nI (3 + 1) by decide)]
        rfl
    obtain ⟨u, Mu, Fu, eu⟩ := LM _ Mt
    have Fv : Fk cmF cmA s u := FkT (FkI Ft2) (FkI Fu)
    have e14 : u.1 0 14 = (bst g 3).2 := by rw [Fu.1 0 14 (by decide)]; rfl
    refine ⟨_, _, sF u 200 2 (u.1 0 14), et, ?_, Rel_qa R H Fv Mu⟩
    rw [e14]; exact eu
end RK
