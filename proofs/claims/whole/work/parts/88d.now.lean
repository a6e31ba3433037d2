/-! the pure part: the cave as it is now, set and undone -/
section RF
variable {s t u : mb_T} {n p a b q m i c k x y j l : Nat} {v : Int32} {z : zT} {w w2 : wT} {r : Bool} {law law2 X Y V U T : Int32} {fs gs ks : List (Nat × Nat)} {as bs cs : List Nat} {hM nM : Nat → Int32}
theorem pC_isOne_t (e : s.1 100 0 = nI p) (h5 : p ≤ 5) (h : x < p) : f_C_isOne n (nI x) s = some (1, s) := by
  unfold f_C_isOne
  rw [bz_n, if_neg (nI_pos (by omega)), e, if_neg (npi (by omega) h)]
theorem pC_isOne_f (e : s.1 100 0 = nI p) (h : X < 0 ∨ nI p ≤ X) : f_C_isOne n X s = some (0, s) := by
  unfold f_C_isOne
  rw [bz_n, e]
  rcases h with h | h
  · rw [if_pos h]
  · rw [if_pos h]; split <;> rfl
theorem pM_isOne_t (e : s.1 200 8 = nI p) (h5 : p ≤ 5) (h : x < p) : f_M_isOne n (nI x) s = some (1, s) := by
  unfold f_M_isOne
  rw [pM_in, clS, bzin, e, inI_pt h (by omega)]
theorem pM_isOne_f (e : s.1 200 8 = nI p) (h5 : p ≤ 5) (h : X < 0 ∨ nI p ≤ X) : f_M_isOne n X s = some (0, s) := by
  unfold f_M_isOne
  rw [pM_in, clS, bzin, e, inI_pf h (by omega)]
theorem Cav_now (H : Cav r z w law s) (h : Fk fs as s t) (h1 : 1 ≤ zP z) (hM : HM z w2 t) (hC : CVv 100 r z w2 law2 (t.2.1 226) (t.2.1 227) t) (hl : t.1 200 10 = law2) (hf : (∀ q ∈ [(140, 0), (140, 1), (140, 2), (140, 3), (140, 4), (160, 0), (160, 1), (160, 2), (160, 3), (160, 4), (180, 0), (180, 1), (180, 2), (180, 3), (180, 4), (200, 9), (200, 22)], q ∉ fs) := by decide) (ha : (∀ q ∈ [140, 141, 142, 143, 144, 145, 146, 147, 148, 149, 150, 151, 152, 160, 161, 162, 163, 164, 165, 166, 167, 168, 169, 170, 171, 172, 180, 181, 182, 183, 184, 185, 186, 187, 188, 189, 190, 191, 192, 223, 229], q ∉ as) := by decide) : Cav r z w2 law2 t := by
  obtain ⟨a1, a2, a3, a4, a5, a6, a7, a8, a9, a10⟩ := H
  refine ⟨a1, a2, hM, ?_, ?_, hC, fun _ => hl, fun e => by omega, ?_, by rw [h.1 200 9 (hf _ (by decide))]; exact a10⟩
  · rw [h.2.1 223 (ha _ (by decide))]; exact a4
  · rw [h.1 200 22 (hf _ (by decide))]; exact a5
  · intro k hk
    have : k = 0 ∨ k = 1 ∨ k = 2 := by omega
    refine Kp_fr (a9 k hk) h (fun j hj => hf _ ?_) (fun q hq => ha _ ?_) (ha _ (by decide))
    · rcases this with rfl | rfl | rfl <;> (revert hj; revert j; decide)
    · rcases this with rfl | rfl | rfl <;> (revert hq; revert q; decide)
abbrev outF : List (Nat × Nat) := [(0, 13), (200, 0)]
abbrev outA : List Nat := [1, 3, 12, 20, 21, 22, 23, 24, 25, 30, 31, 32, 33, 201, 203, 204, 206, 207]
theorem Rel_o (R : Rel s) (h : Fk fs as s t) (ha : t.1 0 14 = t.1 200 2) (C : Cav r z w law t) (hf : (∀ q ∈ outF, q ∉ fs) := by decide) (hs : (∀ q ∈ outA, q ∉ as) := by decide) : Rel t := by
  refine ⟨Rows_fr R.1 h ?_, Txts_fr R.2.1 h ?_, Fnd_fr R.2.2.1 h ⟨hf _ (by decide), hf _ (by decide)⟩ ⟨hs _ (by decide), hs _ (by decide)⟩, ha, r, z, w, law, C⟩
  · intro q hq; exact hs q (by revert hq; revert q; decide)
  · intro q hq; exact hs q (by revert hq; revert q; decide)
theorem lawok_n (hx : x < 4) : lawok (nI x) := by
  unfold lawok
  have : x = 0 ∨ x = 1 ∨ x = 2 ∨ x = 3 := by omega
  rcases this with rfl | rfl | rfl | rfl <;> decide
theorem p0 (h5 : p ≤ 5) : (nI p = 0) = (p = 0) := by
  rw [show (0 : Int32) = nI 0 from rfl, nI_eq (by omega) (by decide)]
theorem cs_law : CS (f_C_law n X) (f_M_law n X) := by
  intro s R
  obtain ⟨-, -, -, r4, r, z, w, law, H⟩ := id R
  have h5 := Cav5 H
  obtain ⟨p1, p2⟩ := CavP H
  rcases rngC (x := X) 4 with ⟨x, hx, rfl⟩ | hX
  · have c1 : f_C_isLaw n (nI x) s = some (1, s) := by
      unfold f_C_isLaw
      rw [bz_n, if_neg (nI_pos (by omega)), if_neg (show ¬ (4 : Int32) ≤ nI x from npi (p := 4) (by decide) hx)]
    have c2 : ∀ u, f_M_in n (nI x) 0 3 u = some (1, u) := fun u => by rw [pM_in, show (3 : Int32) = nI 3 from rfl, show (0 : Int32) = nI 0 from rfl, inI_t (by omega) (by omega) (by decide)]
    by_cases h0 : zP z = 0
    · refine ⟨-4, s, s, ?_, ?_, R⟩
      · unfold f_C_law
        rw [c1, clS, if_neg (by decide), p1, h0, if_pos (by decide)]
      · unfold f_M_law
        rw [c2, clS, if_neg (by decide), p2, h0, if_pos (by decide)]
    · have hne : ¬ nI (zP z) = 0 := by rw [p0 h5]; exact h0
      refine ⟨law, sF s 100 2 (nI x), sF (sF s 100 2 (nI x)) 200 10 (nI x), ?_, ?_, ?_⟩
      · unfold f_C_law
        rw [c1, clS, if_neg (by decide), p1, if_neg hne, bdS, (CavL H).1]
      · unfold f_M_law
        rw [c2, clS, if_neg (by decide), show (sF s 100 2 (nI x)).1 200 8 = nI (zP z) from p2, if_neg hne, bdS, show (sF s 100 2 (nI x)).1 200 10 = law from H.2.2.2.2.2.2.1 (by omega)]
      · have F : Fk [(100, 2), (200, 10)] [] s (sF (sF s 100 2 (nI x)) 200 10 (nI x)) := FkT (FrQ (FrF (i := 100) (k := 2))) (FrQ (FrF (i := 200) (k := 10)))
        obtain ⟨hv, hr, hl, ho, hh⟩ := H.2.2.2.2.2.1
        exact Rel_o R F r4 (Cav_now (law2 := nI x) H F (by omega) (HMfk (CavM H) F (by decide) (by decide)) ⟨hv, hr, rfl, lawok_n hx, hh⟩ rfl)
  · refine ⟨-1, s, s, ?_, ?_, R⟩
    · unfold f_C_law f_C_isLaw
      rw [bz_n, clS]
      rcases hX with h | h
      · rw [if_pos h, if_pos rfl]
      · rw [if_pos (show (4 : Int32) ≤ X from h)]; split <;> first | rfl | (split <;> first | rfl | contradiction)
    · unfold f_M_law
      rw [pM_in, clS, show (3 : Int32) = nI 3 from rfl, inI_f (b := 3) hX (by decide), if_pos rfl]
theorem cs_oil : CS (f_C_oil n X) (f_M_oil n X) := by
  intro s R
  obtain ⟨-, -, -, r4, r, z, w, law, H⟩ := id R
  have h5 := Cav5 H
  obtain ⟨p1, p2⟩ := CavP H
  by_cases a1 : X < 0
  · refine ⟨-1, s, s, ?_, ?_, R⟩
    · unfold f_C_oil
      rw [if_pos a1]
    · unfold f_M_oil
      rw [pM_in, clS, inI, if_pos a1, if_pos rfl]
  · by_cases a2 : X ≤ 99
    · by_cases h0 : zP z = 0
      · refine ⟨-4, s, s, ?_, ?_, R⟩
        · unfold f_C_oil
          rw [if_neg a1, if_pos a2, p1, h0, if_pos (by decide)]
        · unfold f_M_oil
          rw [pM_in, clS, inI, if_neg a1, if_neg (Int32.not_lt.mpr a2), if_neg (by decide), p2, h0, if_pos (by decide)]
      · have hne : ¬ nI (zP z) = 0 := by rw [p0 h5]; exact h0
        refine ⟨w.2.1, sF s 100 3 X, sF (sF s 100 3 X) 200 11 X, ?_, ?_, ?_⟩
        · unfold f_C_oil
          rw [if_neg a1, if_pos a2, p1, if_neg hne, bdS, (CavV H).2.2.2.1]
        · unfold f_M_oil
          rw [pM_in, clS, inI, if_neg a1, if_neg (Int32.not_lt.mpr a2), if_neg (by decide), show (sF s 100 3 X).1 200 8 = nI (zP z) from p2, if_neg hne, bdS, show (sF s 100 3 X).1 200 11 = w.2.1 from (CavM H).2.2.1]
        · have F : Fk [(100, 3), (200, 11)] [] s (sF (sF s 100 3 X) 200 11 X) := FkT (FrQ (FrF (i := 100) (k := 3))) (FrQ (FrF (i := 200) (k := 11)))
          obtain ⟨⟨v1, v2, v3, v4, v5, v6, v7⟩, hr, hl, ho, hh⟩ := H.2.2.2.2.2.1
          obtain ⟨q1, q2, q3, q4, q5, q6, q7, q8, q9⟩ := CavM H
          exact Rel_o R F r4 (Cav_now (w2 := (w.1, X, w.2.2)) (law2 := law) H F (by omega) ⟨q1, q2, rfl, q4, q5, q6, q7, q8, q9⟩ ⟨⟨v1, v2, v3, rfl, v5, v6, v7⟩, hr, hl, ho, hh⟩ (H.2.2.2.2.2.2.1 (by omega)))
    · refine ⟨-1, s, s, ?_, ?_, R⟩
      · unfold f_C_oil
        rw [if_neg a1, if_neg a2]
      · unfold f_M_oil
        rw [pM_in, clS, inI, if_neg a1, if_pos (Int32.not_le.mp a2), if_pos rfl]
theorem cs_fear : CS (f_C_fear n X V) (f_M_fear n X V) := by
  intro s R
  obtain ⟨-, -, -, r4, r, z, w, law, H⟩ := id R
  have h5 := Cav5 H
  obtain ⟨p1, p2⟩ := CavP H
  rcases rngC (x := X) (zP z) (by omega) with ⟨x, hx, rfl⟩ | hX
  · by_cases a1 : V < 0
    · refine ⟨-1, s, s, ?_, ?_, R⟩
      · unfold f_C_fear
        rw [pC_isOne_t p1 h5 hx, clS, if_neg (by decide), if_pos a1]
      · unfold f_M_fear
        rw [pM_isOne_t p2 h5 hx, clS, if_neg (by decide), pM_in, clS, inI, if_pos a1, if_pos rfl]
    · by_cases a2 : V ≤ 99
      · refine ⟨w.1 x, sA s 106 x V, sA (sA s 106 x V) 213 x V, ?_, ?_, ?_⟩
        · unfold f_C_fear
          rw [pC_isOne_t p1 h5 hx, clS, if_neg (by decide), if_neg a1, if_pos a2, rdI (by omega) (by decide), wrI (by omega) (by decide), ((CavV H).2.2.2.2.2.2 x hx).2.1]
        · unfold f_M_fear
          rw [pM_isOne_t (s := sA s 106 x V) p2 h5 hx, clS, if_neg (by decide), pM_in, clS, inI, if_neg a1, if_neg (Int32.not_lt.mpr a2), if_neg (by decide), rdI (by omega) (by decide), wrI (by omega) (by decide), show (sA s 106 x V).2.1 213 x = w.1 x from ((CavM H).2.2.2.2.2.2.2.2 x hx).2.1]
        · have F : Fk [] [106, 213] s (sA (sA s 106 x V) 213 x V) := FkT (FrQ (FrA (q := 106))) (FrQ (FrA (q := 213)))
          obtain ⟨⟨v1, v2, v3, v4, v5, v6, v7⟩, hr, hl, ho, hh⟩ := H.2.2.2.2.2.1
          obtain ⟨q1, q2, q3, q4, q5, q6, q7, q8, q9⟩ := CavM H
          refine Rel_o R F r4 (Cav_now (w2 := (upd w.1 x V, w.2)) (law2 := law) H F (by omega) ⟨q1, q2, q3, q4, q5, q6, q7, q8, fun y hy => ?_⟩ ⟨⟨v1, v2, v3, v4, v5, v6, fun y hy => ?_⟩, ⟨fun y hy => ?_, hr.2⟩, hl, ho, hh⟩ (H.2.2.2.2.2.2.1 (by omega)))
          · obtain ⟨b1, b2, b3, b4, b5⟩ := q9 y hy
            refine ⟨b1, ?_, b3, b4, b5⟩
            show upd (s.2.1 213) x V y = upd w.1 x V y
            rw [updI, updI, b2]
          · obtain ⟨b1, b2, b3, b4, b5⟩ := v7 y hy
            refine ⟨b1, ?_, b3, b4, b5⟩
            show upd (s.2.1 106) x V y = upd w.1 x V y
            rw [updI, updI, ← b2]
          · show ∃ f, f ≤ 99 ∧ upd w.1 x V y = nI f
            rw [updI]
            split
            · exact nI_of2 (M := 99) rfl a1 a2
            · exact hr.1 y hy
      · refine ⟨-1, s, s, ?_, ?_, R⟩
        · unfold f_C_fear
          rw [pC_isOne_t p1 h5 hx, clS, if_neg (by decide), if_neg a1, if_neg a2]
        · unfold f_M_fear
          rw [pM_isOne_t p2 h5 hx, clS, if_neg (by decide), pM_in, clS, inI, if_neg a1, if_pos (Int32.not_le.mp a2), if_pos rfl]
  · refine ⟨-1, s, s, ?_, ?_, R⟩
    · unfold f_C_fear
      rw [pC_isOne_f p1 hX, clS, if_pos rfl]
    · unfold f_M_fear
      rw [pM_isOne_f p2 h5 hX, clS, if_pos rfl]
theorem CavH (H : Cav r z w law s) (hm : m ≤ 120) (e : w.2.2.1 = nI m) : HIS (zP z) m (s.2.1 110) (s.2.1 111) (s.2.1 112) (s.2.1 226) (s.2.1 227) := H.2.2.2.2.2.1.2.2.2.2 m hm e
theorem cs_had : CS (f_C_had n X) (f_M_had n X) := by
  intro s R
  obtain ⟨-, -, -, r4, r, z, w, law, H⟩ := id R
  obtain ⟨mi, m1, m2, m3, m4⟩ := Cav_m H
  unfold f_C_had f_M_had
  by_cases a1 : 0 ≤ X
  · obtain ⟨j, hj, rfl⟩ := nI_of (Int32.not_lt.mpr a1)
    by_cases c : j < mi
    · refine ⟨s.2.1 110 j, s, s, ?_, ?_, R⟩
      · rw [if_pos a1, m3, if_pos (nI_lt c (by omega)), rdI (by omega) (by decide)]
      · rw [if_pos a1, m4, if_neg (nI_ge c (by omega)), rdI (by omega) (by decide), (CavH H m1 m2 j c).2.1]
    · refine ⟨-3, fC 2 s, fM 2 (fC 2 s), ?_, ?_, Rel_found R⟩
      · rw [if_pos a1, m3, if_neg (nI_nlt (by omega) hj), pC_f2, clS]
      · rw [if_pos a1, show (fC 2 s).1 200 24 = nI mi from m4, if_pos (nI_le (by omega) hj), pM_f2, clS]
  · exact ⟨-1, s, s, by rw [if_neg a1], by rw [if_neg a1], R⟩
theorem nI_5m : nI x * 5 = nI (5 * x) := by rw [Nat.mul_comm]; exact nI_mul x 5
theorem nI_6m : (6 : Int32) * nI x = nI (6 * x) := nI_mul 6 x
theorem pM_undo40 (hn : 200 ≤ n) (hx : x < 120) {k0 : Int32 → mb_T → Option (Int32 × mb_T)} : f_M_undo_40 n k0 (nI x) Y n 0 s = k0 (nI 5) (sV s 213 (foU (fun y => s.2.1 227 (6 * x + 1 + y)) (s.2.1 213) 5)) := by
  have e := lp (F := fun f (t : Int32 × mb_T) => f_M_undo_40 n k0 (nI x) Y f t.1 t.2) (R := k0 (nI 5) (sV s 213 (foU (fun y => s.2.1 227 (6 * x + 1 + y)) (s.2.1 213) 5))) (fun i => (nI i, sV s 213 (foU (fun y => s.2.1 227 (6 * x + 1 + y)) (s.2.1 213) i))) 5 ?_ ?_ n (by omega)
  · have e2 : sV s 213 (foU (fun y => s.2.1 227 (6 * x + 1 + y)) (s.2.1 213) 0) = s := sVid
    dsimp only at e
    rw [e2] at e
    exact e
  · intro i hi f
    dsimp only
    have g : (sV s 213 (foU (fun y => s.2.1 227 (6 * x + 1 + y)) (s.2.1 213) i)).2.1 227 (6 * x + 1 + i) = s.2.1 227 (6 * x + 1 + i) := by rw [sV2, if_neg (by decide)]
    rw [f_M_undo_40.eq_2, if_neg (show ¬ (5 : Int32) ≤ nI i from npi (p := 5) (by decide) hi), nI_6m, nI_1, nI_add, rdI (by omega) (by decide), wrI (by omega) (by decide), g, sAV, nI_1, foU_s]
  · intro f
    dsimp only
    rw [f_M_undo_40.eq_2, if_pos (show (5 : Int32) ≤ nI 5 by decide)]
theorem cs_undo (hn : 200 ≤ n) : CS (f_C_undo n X) (f_M_undo n X) := by
  intro s R
  obtain ⟨-, -, -, r4, r, z, w, law, H⟩ := id R
  have h5 := Cav5 H
  obtain ⟨mi, m1, m2, m3, m4⟩ := Cav_m H
  rcases rngC (x := X) (mi + 1) (by omega) with ⟨x, hx, rfl⟩ | hX
  · have d1 : f_M_in n (nI x) 0 (nI mi) = fun u => some (1, u) := by
      funext u
      rw [pM_in, show (0 : Int32) = nI 0 from rfl, inI_t (by omega) (by omega) (by omega)]
    by_cases c : x = mi
    · subst c
      refine ⟨0, s, s, ?_, ?_, R⟩
      · unfold f_C_undo f_V_backTo
        rw [if_neg (nI_pos (by omega)), m3, if_pos npp, if_neg (nI_pos (by omega)), if_pos npp, cwS2, Int32.sub_self]
      · unfold f_M_undo
        rw [m4, d1, clS, if_neg (by decide), m4, Int32.sub_self, if_pos (by decide)]
    · have hlt : x < mi := by omega
      have hs : nI mi - nI x = nI (mi - x) := nI_subN (by omega)
      refine ⟨nI mi - nI x, sV (sF (sF s 100 4 (nI x)) 100 3 (s.2.1 111 x)) 106 (va_cpy (s.2.1 112) (s.2.1 106) (5 * x) 0 5), ?_⟩
      obtain ⟨s1, es1⟩ : ∃ s1, s1 = sV (sF (sF s 100 4 (nI x)) 100 3 (s.2.1 111 x)) 106 (va_cpy (s.2.1 112) (s.2.1 106) (5 * x) 0 5) := ⟨_, rfl⟩
      rw [← es1]
      have c1 : f_C_undo n (nI x) s = some (nI mi - nI x, s1) := by
        unfold f_C_undo f_V_backTo
        rw [if_neg (nI_pos (by omega)), m3, if_pos (nI_le (by omega) (by omega)), if_neg (nI_pos (by omega)), if_neg (nI_ge hlt (by omega)), bdS, rdI (by omega) (by decide), bdS, nI_5m]
        have e := cpI (s := sF (sF s 100 4 (nI x)) 100 3 (s.2.1 111 x)) (sp := 5 * x) (dp := 0) (m := 5) (n0 := 600) (n1 := 5) (a0 := 112) (a1 := 106) (k := fun s_10 => some s_10) (by omega) (by omega) (by decide) (by decide)
        rw [es1]
        show mb_cw (mb_cp (sF (sF s 100 4 (nI x)) 100 3 (s.2.1 111 x)) 112 600 106 5 (nI (5 * x)) (nI 0) (nI 5) fun s_10 => some s_10) _ = _
        rw [e]
        rfl
      have F1 : Fk [(100, 3), (100, 4)] [106] s s1 := by
        rw [es1]
        exact FkT (FkT (FrQ (FrF (i := 100) (k := 4))) (FrQ (FrF (i := 100) (k := 3)))) (FrQ (FrV (q := 106)))
      obtain ⟨hol, eh⟩ : ∃ hol : Option Nat, hol = if x = 0 then none else some (s.2.1 110 (x - 1)).toNatClampNeg := ⟨_, rfl⟩
      have eho : x ≠ 0 → ∃ y, y < zP z ∧ s.2.1 110 (x - 1) = nI y ∧ s.2.1 226 (x - 1) = nI y ∧ hol = some y := by
        intro h0
        obtain ⟨⟨y, y1, y2⟩, y3, -⟩ := CavH H m1 m2 (x - 1) (by omega)
        refine ⟨y, y1, y2, by rw [y3, y2], ?_⟩
        rw [eh, if_neg h0, y2, nI_clamp (by omega)]
      obtain ⟨s2, es2⟩ : ∃ s2, s2 = sF (sF (sV (sF s1 200 11 (s.2.1 227 (6 * x))) 213 (foU (fun y => s.2.1 227 (6 * x + 1 + y)) (s.2.1 213) 5)) 200 24 (nI x)) 200 25 (oM hol) := ⟨_, rfl⟩
      have c2 : f_M_undo n (nI x) s1 = some (nI mi - nI x, s2) := by
        have g24 : s1.1 200 24 = nI mi := by rw [F1.1 200 24 (by decide)]; exact m4
        have g227 : s1.2.1 227 = s.2.1 227 := F1.2.1 227 (by decide)
        have g213 : s1.2.1 213 = s.2.1 213 := F1.2.1 213 (by decide)
        have g226 : s1.2.1 226 = s.2.1 226 := F1.2.1 226 (by decide)
        unfold f_M_undo
        rw [g24, d1, clS, if_neg (by decide), g24, hs, if_neg (nI_nle (by omega) (by omega)), nI_6m, rdI (by omega) (by decide), g227, bdS, pM_undo40 hn (by omega)]
        have k1 : (sF s1 200 11 (s.2.1 227 (6 * x))).2.1 227 = s.2.1 227 := g227
        have k2 : (sF s1 200 11 (s.2.1 227 (6 * x))).2.1 213 = s.2.1 213 := g213
        rw [k1, k2, bdS]
        by_cases h0 : x = 0
        · have : nI x = 0 := by rw [h0]; rfl
          rw [if_pos this, bdS, es2, eh, if_pos h0]
          rfl
        · obtain ⟨y, y1, y2, y3, y4⟩ := eho h0
          have hn0 : ¬ nI x = 0 := nI_ne0 (by omega) (by omega)
          have hp : nI x - 1 = nI (x - 1) := by
            have := nI_pred (x - 1)
            rwa [show x - 1 + 1 = x by omega] at this
          have k3 : (sF (sV (sF s1 200 11 (s.2.1 227 (6 * x))) 213 (foU (fun y => s.2.1 227 (6 * x + 1 + y)) (s.2.1 213) 5)) 200 24 (nI x)).2.1 226 (x - 1) = nI y := by
            show s1.2.1 226 (x - 1) = nI y
            rw [g226, y3]
          rw [if_neg hn0, hp, rdI (by omega) (by decide), k3, bdS, es2, y4]
          rfl
      refine ⟨s2, c1, c2, ?_⟩
      have F2 : Fk [(200, 11), (200, 24), (200, 25)] [213] s1 s2 := by
        rw [es2]
        exact FkT (FkT (FkT (FrQ (FrF (i := 200) (k := 11))) (FrQ (FrV (q := 213)))) (FrQ (FrF (i := 200) (k := 24)))) (FrQ (FrF (i := 200) (k := 25)))
      have F : Fk [(100, 3), (100, 4), (200, 11), (200, 24), (200, 25)] [106, 213] s s2 := FkT (FkI F1) (FkI F2)
      have hh := CavH H m1 m2
      have h1 : 1 ≤ zP z := by
        rcases Nat.eq_zero_or_pos (zP z) with e | e
        · have := (H.2.2.2.2.2.2.2.1 e).2.2.2
          rw [m2, show (0 : Int32) = nI 0 from rfl, nI_eq (by omega) (by decide)] at this
          omega
        · exact e
      obtain ⟨⟨v1, v2, v3, v4, v5, v6, v7⟩, hr, hl, ho, -⟩ := H.2.2.2.2.2.1
      obtain ⟨q1, q2, q3, q4, q5, q6, q7, q8, q9⟩ := CavM H
      refine Rel_o R F (by rw [F.1 0 14 (by decide), F.1 200 2 (by decide)]; exact r4) (Cav_now (w2 := (fun y => s.2.1 112 (5 * x + y), s.2.1 111 x, nI x, hol)) (law2 := law) H F h1 ?_ ⟨?_, ⟨?_, ?_⟩, ?_, ho, ?_⟩ ?_)
      · refine ⟨q1, by rw [F.1 200 8 (by decide)]; exact q2, ?_, by rw [es2]; rfl, by rw [es2]; rfl, q6, ?_, ?_, fun y hy => ?_⟩
        · rw [es2]
          show s.2.1 227 (6 * x) = s.2.1 111 x
          exact (hh x hlt).2.2.1
        · rw [F.2.1 223 (by decide), F.1 200 9 (by decide)]; exact q7
        · rw [F.1 200 22 (by decide)]; exact q8
        · obtain ⟨b1, b2, b3, b4, b5⟩ := q9 y hy
          rw [F.2.1 212 (by decide), F.2.1 214 (by decide), F.2.1 215 (by decide), F.2.1 216 (by decide)]
          refine ⟨b1, ?_, b3, b4, b5⟩
          rw [es2]
          show foU (fun y => s.2.1 227 (6 * x + 1 + y)) (s.2.1 213) 5 y = s.2.1 112 (5 * x + y)
          rw [foU_get, if_pos (by omega), ((hh x hlt).2.2.2 y hy).1]
      · refine ⟨v1, by rw [F.1 100 0 (by decide)]; exact v2, by rw [F.1 100 1 (by decide)]; exact v3, ?_, ?_, ⟨x, by omega, rfl, ?_, ?_⟩, fun y hy => ?_⟩
        · rw [F2.1 100 3 (by decide), es1]; rfl
        · rw [F2.1 100 4 (by decide), es1]; rfl
        · intro h0; show hol = none; rw [eh, if_pos h0]
        · intro h0
          obtain ⟨y, y1, y2, y3, y4⟩ := eho (by omega)
          refine ⟨?_, ?_⟩
          · rw [F.2.1 (100 + 10) (by decide)]
            show s.2.1 110 (x - 1) = oC hol
            rw [y4, y2]; rfl
          · show hol ≠ none
            rw [y4]; intro c; cases c
        · obtain ⟨b1, b2, b3, b4, b5⟩ := v7 y hy
          rw [F.2.1 (100 + 5) (by decide), F.2.1 (100 + 7) (by decide), F.2.1 (100 + 8) (by decide), F.2.1 (100 + 9) (by decide)]
          refine ⟨b1, ?_, b3, b4, b5⟩
          rw [F2.2.1 (100 + 6) (by decide), es1]
          show va_cpy (s.2.1 112) (s.2.1 106) (5 * x) 0 5 y = s.2.1 112 (5 * x + y)
          have := cpy_i (f := s.2.1 112) (g := s.2.1 106) (sp := 5 * x) (dp := 0) (i := 5) (k := y) (by omega)
          rwa [show 0 + y = y by omega] at this
      · intro y hy
        exact ((hh x hlt).2.2.2 y hy).2
      · intro g hg
        by_cases h0 : x = 0
        · have : hol = none := by rw [eh, if_pos h0]
          rw [this] at hg; cases hg
        · obtain ⟨y, y1, y2, y3, y4⟩ := eho h0
          rw [y4] at hg
          have : y = g := Option.some.inj hg
          omega
      · rw [F.1 100 2 (by decide)]; exact hl
      · intro k hk ek
        have ek2 : nI x = nI k := ek
        rw [nI_eq (by omega) (by omega)] at ek2
        subst ek2
        rw [F.2.1 (100 + 10) (by decide), F.2.1 (100 + 11) (by decide), F.2.1 (100 + 12) (by decide), F.2.1 226 (by decide), F.2.1 227 (by decide)]
        intro e he
        exact hh e (by omega)
      · rw [F.1 200 10 (by decide)]; exact H.2.2.2.2.2.2.1 h1
  · refine ⟨-1, s, s, ?_, ?_, R⟩
    · unfold f_C_undo
      rw [m3]
      rcases hX with h | h
      · rw [if_pos h]
      · rw [if_neg (show ¬ X ≤ nI mi from Int32.not_le.mpr (lt_le h (by omega) (by omega)))]; split <;> rfl
    · unfold f_M_undo
      rw [m4, pM_in, clS, inI_f (b := mi) hX (by omega), if_pos rfl]
end RF
