/-! the pure part: gone on from; a minute that stays -/
section RH
variable {s t u : mb_T} {n p a b q m i c c1 k x y j l h K : Nat} {v : Int32} {z : zT} {w w2 : wT} {r : Bool} {law law2 X Y V U T : Int32} {fs gs ks : List (Nat × Nat)} {as bs cs : List Nat} {hM nM hM2 nM2 : Nat → Int32}
theorem pM_o82 (hn : 1000 ≤ n) (hk : k < 3) {k0 : Int32 → mb_T → Option (Int32 × mb_T)} : f_M_on_82 n k0 (nI (850 * k)) n 0 s = k0 (nI 5) (sV s 213 (foU (fun i => s.2.1 229 (850 * k + 4 + i)) (s.2.1 213) 5)) := by
  have e := lp (F := fun f (t : Int32 × mb_T) => f_M_on_82 n k0 (nI (850 * k)) f t.1 t.2) (R := k0 (nI 5) (sV s 213 (foU (fun i => s.2.1 229 (850 * k + 4 + i)) (s.2.1 213) 5))) (fun i => (nI i, sV s 213 (foU (fun i => s.2.1 229 (850 * k + 4 + i)) (s.2.1 213) i))) 5 ?_ ?_ n (by omega)
  · have e2 : sV s 213 (foU (fun i => s.2.1 229 (850 * k + 4 + i)) (s.2.1 213) 0) = s := sVid
    dsimp only at e
    rw [e2] at e
    exact e
  · intro i hi f
    dsimp only
    have g : (sV s 213 (foU (fun i => s.2.1 229 (850 * k + 4 + i)) (s.2.1 213) i)).2.1 229 (850 * k + 4 + i) = s.2.1 229 (850 * k + 4 + i) := by rw [sV2, if_neg (by decide)]
    rw [f_M_on_82.eq_2, if_neg (show ¬ (5 : Int32) ≤ nI i from npi (p := 5) (by decide) hi), nI_4a, nI_add, rdI (by omega) (by decide), wrI (by omega) (by decide), g, sAV, nI_1, foU_s]
  · intro f
    dsimp only
    rw [f_M_on_82.eq_2, if_pos (show (5 : Int32) ≤ nI 5 by decide)]
theorem pM_o111 (hn : 1000 ≤ n) (hk : k < 3) {k0 : Int32 → mb_T → Option (Int32 × mb_T)} : f_M_on_111 n k0 (nI (850 * k)) n 0 s = k0 (nI 120) (sV s 226 (foU (fun i => s.2.1 229 (850 * k + 10 + i)) (s.2.1 226) 120)) := by
  have e := lp (F := fun f (t : Int32 × mb_T) => f_M_on_111 n k0 (nI (850 * k)) f t.1 t.2) (R := k0 (nI 120) (sV s 226 (foU (fun i => s.2.1 229 (850 * k + 10 + i)) (s.2.1 226) 120))) (fun i => (nI i, sV s 226 (foU (fun i => s.2.1 229 (850 * k + 10 + i)) (s.2.1 226) i))) 120 ?_ ?_ n (by omega)
  · have e2 : sV s 226 (foU (fun i => s.2.1 229 (850 * k + 10 + i)) (s.2.1 226) 0) = s := sVid
    dsimp only at e
    rw [e2] at e
    exact e
  · intro i hi f
    dsimp only
    have g : (sV s 226 (foU (fun i => s.2.1 229 (850 * k + 10 + i)) (s.2.1 226) i)).2.1 229 (850 * k + 10 + i) = s.2.1 229 (850 * k + 10 + i) := by rw [sV2, if_neg (by decide)]
    rw [f_M_on_111.eq_2, if_neg (show ¬ (120 : Int32) ≤ nI i from npi (p := 120) (by decide) hi), nI_10a, nI_add, rdI (by omega) (by decide), wrI (by omega) (by decide), g, sAV, nI_1, foU_s]
  · intro f
    dsimp only
    rw [f_M_on_111.eq_2, if_pos (show (120 : Int32) ≤ nI 120 by decide)]
theorem pM_o142 (hn : 1000 ≤ n) (hk : k < 3) {k0 : Int32 → mb_T → Option (Int32 × mb_T)} : f_M_on_142 n k0 (nI (850 * k)) n 0 s = k0 (nI 720) (sV s 227 (foU (fun i => s.2.1 229 (850 * k + 130 + i)) (s.2.1 227) 720)) := by
  have e := lp (F := fun f (t : Int32 × mb_T) => f_M_on_142 n k0 (nI (850 * k)) f t.1 t.2) (R := k0 (nI 720) (sV s 227 (foU (fun i => s.2.1 229 (850 * k + 130 + i)) (s.2.1 227) 720))) (fun i => (nI i, sV s 227 (foU (fun i => s.2.1 229 (850 * k + 130 + i)) (s.2.1 227) i))) 720 ?_ ?_ n (by omega)
  · have e2 : sV s 227 (foU (fun i => s.2.1 229 (850 * k + 130 + i)) (s.2.1 227) 0) = s := sVid
    dsimp only at e
    rw [e2] at e
    exact e
  · intro i hi f
    dsimp only
    have g : (sV s 227 (foU (fun i => s.2.1 229 (850 * k + 130 + i)) (s.2.1 227) i)).2.1 229 (850 * k + 130 + i) = s.2.1 229 (850 * k + 130 + i) := by rw [sV2, if_neg (by decide)]
    rw [f_M_on_142.eq_2, if_neg (show ¬ (720 : Int32) ≤ nI i from npi (p := 720) (by decide) hi), nI_130a, nI_add, rdI (by omega) (by decide), wrI (by omega) (by decide), g, sAV, nI_1, foU_s]
  · intro f
    dsimp only
    rw [f_M_on_142.eq_2, if_pos (show (720 : Int32) ≤ nI 720 by decide)]
def onM (k : Nat) (s : mb_T) : mb_T := sV (sV (sV (sF (sF (sF (sF s 200 24 (s.2.1 229 (850 * k))) 200 10 (s.2.1 229 (850 * k + 1))) 200 11 (s.2.1 229 (850 * k + 2))) 200 25 (s.2.1 229 (850 * k + 3))) 213 (foU (fun i => s.2.1 229 (850 * k + 4 + i)) (s.2.1 213) 5)) 226 (foU (fun i => s.2.1 229 (850 * k + 10 + i)) (s.2.1 226) 120)) 227 (foU (fun i => s.2.1 229 (850 * k + 130 + i)) (s.2.1 227) 720)
theorem pM_on (hn : 1000 ≤ n) (hk : k < 3) (hp : ¬ s.2.1 229 (850 * k) = -9) : f_M_on n (nI k) s = some (s.2.1 229 (850 * k), onM k s) := by
  unfold f_M_on
  rw [pM_in, clS, show (2 : Int32) = nI 2 from rfl, show (0 : Int32) = nI 0 from rfl, inI_t (by omega) (by omega) (by decide), if_neg (by decide), nI_850, rdI (by omega) (by decide), if_neg hp, rdI (by omega) (by decide), bdS, nI_1, rdI (by omega) (by decide), bdS, show nI (850 * k) + nI 2 = nI (850 * k + 2) from nI_add _ _, rdI (by omega) (by decide), bdS, nI_3a, rdI (by omega) (by decide), bdS]
  rw [show nI 0 = (0 : Int32) from rfl, pM_o82 hn hk, pM_o111 hn hk, pM_o142 hn hk]
  rfl
theorem bec_fk : Fk [(c, 0), (c, 1), (c, 2), (c, 3), (c, 4)] [c + 5, c + 6, c + 7, c + 8, c + 9, c + 10, c + 11, c + 12] s (bec c c1 s) := by
  refine ⟨fun a j hj => bec_G ?_, fun a ha => bec_o ?_, rfl⟩
  · simp at hj
    omega
  · simp at ha
    omega
theorem cs_on (hn : 1000 ≤ n) : CS (f_C_on n X) (f_M_on n X) := by
  intro s R
  obtain ⟨-, -, -, r4, r, z, w, law, H⟩ := id R
  have h5 := Cav5 H
  rcases rngC (x := X) 3 with ⟨k, hk, rfl⟩ | hX
  · have c1 : f_C_isKeepingPlace n (nI k) s = some (1, s) := by
      unfold f_C_isKeepingPlace
      rw [bz_n, if_neg (nI_pos (by omega)), if_neg (show ¬ (3 : Int32) ≤ nI k from npi (p := 3) (by decide) hk)]
    rcases H.2.2.2.2.2.2.2.2.1 k hk with ⟨ha, hb⟩ | ⟨ha, h1, w2, law2, CV, e0, e1, e2, e3, e4⟩
    · refine ⟨-3, fC 1 s, fM 1 (fC 1 s), ?_, ?_, Rel_found R⟩
      · unfold f_C_on
        rw [c1, clS, if_neg (by decide), ixI hk (by decide), nI_clamp (by omega), pC_f1, clS]
        rcases ha with ha | ha
        · rw [if_neg (by rw [ha]; decide)]
        · rw [ha, if_pos rfl]; split <;> rfl
      · unfold f_M_on
        rw [pM_in, clS, show (2 : Int32) = nI 2 from rfl, show (0 : Int32) = nI 0 from rfl, inI_t (by omega) (by omega) (by decide), if_neg (by decide), nI_850, rdI (by omega) (by decide), show (fC 1 s).2.1 229 (850 * k) = -9 from hb, if_pos rfl, pM_f1, clS]
    · obtain ⟨⟨v1, v2, v3, v4, v5, ⟨mi, m1, m2, m3, m4⟩, v7⟩, -⟩ := id CV
      have hne : ¬ nI (zP z) = 0 := by rw [p0 h5]; omega
      have g229 : (bec 100 (140 + 20 * k) s).2.1 229 = s.2.1 229 := bec_o (by omega)
      refine ⟨w2.2.2.1, bec 100 (140 + 20 * k) s, onM k (bec 100 (140 + 20 * k) s), ?_, ?_, ?_⟩
      · unfold f_C_on
        rw [c1, clS, if_neg (by decide), ixI hk (by decide), nI_clamp (by omega), ha, if_pos rfl, v2, if_neg hne, p_bec2 hk, cwS2, bec_F (by decide), v5]
      · rw [pM_on hn hk (by rw [g229, e0, m2]; exact nI_m9 (by omega)), g229, e0]
      · obtain ⟨t, et⟩ : ∃ t, t = bec 100 (140 + 20 * k) s := ⟨_, rfl⟩
        rw [← et]
        rw [← et] at g229
        have F1 : Fk [(100, 0), (100, 1), (100, 2), (100, 3), (100, 4)] [105, 106, 107, 108, 109, 110, 111, 112] s t := by rw [et]; exact bec_fk
        have F2 : Fk [(200, 10), (200, 11), (200, 24), (200, 25)] [213, 226, 227] t (onM k t) := FkT (FkT (FkT (FkT (FkT (FkT (FrQ FrF) (FrQ FrF)) (FrQ FrF)) (FrQ FrF)) (FrQ FrV)) (FrQ FrV)) (FrQ FrV)
        have F : Fk [(100, 0), (100, 1), (100, 2), (100, 3), (100, 4), (200, 10), (200, 11), (200, 24), (200, 25)] [105, 106, 107, 108, 109, 110, 111, 112, 213, 226, 227] s (onM k t) := FkT (FkI F1) (FkI F2)
        obtain ⟨q1, q2, q3, q4, q5, q6, q7, q8, q9⟩ := CavM H
        refine Rel_o R F (by rw [F.1 0 14 (by decide), F.1 200 2 (by decide)]; exact r4) (Cav_now (w2 := w2) (law2 := law2) H F h1 ?_ ?_ ?_)
        · refine ⟨q1, by rw [F.1 200 8 (by decide)]; exact q2, ?_, ?_, ?_, q6, ?_, ?_, fun y hy => ?_⟩
          · show t.2.1 229 (850 * k + 2) = w2.2.1
            rw [g229, e2]
          · show t.2.1 229 (850 * k) = w2.2.2.1
            rw [g229, e0]
          · show t.2.1 229 (850 * k + 3) = oM w2.2.2.2
            rw [g229, e3]
          · rw [F.2.1 223 (by decide), F.1 200 9 (by decide)]; exact q7
          · rw [F.1 200 22 (by decide)]; exact q8
          · obtain ⟨b1, b2, b3, b4, b5⟩ := q9 y hy
            rw [F.2.1 212 (by decide), F.2.1 214 (by decide), F.2.1 215 (by decide), F.2.1 216 (by decide)]
            refine ⟨b1, ?_, b3, b4, b5⟩
            show foU (fun i => t.2.1 229 (850 * k + 4 + i)) (t.2.1 213) 5 y = w2.1 y
            rw [foU_get, if_pos (by omega), g229, e4 y hy]
        · refine CVv_mv CV ?_ ?_ ?_ ?_ ?_ ?_ ?_
          · intro j hj
            have : (onM k t).1 100 j = t.1 100 j := F2.1 100 j (by simp)
            rw [this, et, bec_F hj]
          · intro q hq x hx
            have : (onM k t).2.1 (100 + q) = t.2.1 (100 + q) := F2.2.1 _ (by simp; omega)
            rw [this, et, bec_5 hq hx]
          · intro x hx
            have : (onM k t).2.1 (100 + 10) = t.2.1 (100 + 10) := F2.2.1 _ (by decide)
            rw [this, et, bec_10 hx]
          · intro x hx
            have : (onM k t).2.1 (100 + 11) = t.2.1 (100 + 11) := F2.2.1 _ (by decide)
            rw [this, et, bec_11 hx]
          · intro x hx
            have : (onM k t).2.1 (100 + 12) = t.2.1 (100 + 12) := F2.2.1 _ (by decide)
            rw [this, et, bec_12 hx]
          · intro x hx
            show foU (fun i => t.2.1 229 (850 * k + 10 + i)) (t.2.1 226) 120 x = _
            rw [foU_get, if_pos hx, g229]
          · intro x hx
            show foU (fun i => t.2.1 229 (850 * k + 130 + i)) (t.2.1 227) 720 x = _
            rw [foU_get, if_pos hx, g229]
        · show t.2.1 229 (850 * k + 1) = law2
          rw [g229, e1]
  · refine ⟨-1, s, s, ?_, ?_, R⟩
    · unfold f_C_on f_C_isKeepingPlace
      rw [bz_n, clS]
      rcases hX with h | h
      · rw [if_pos h, if_pos rfl]
      · rw [if_pos (show (3 : Int32) ≤ X from h)]; split <;> first | rfl | (split <;> first | rfl | contradiction)
    · unfold f_M_on
      rw [pM_in, clS, show (2 : Int32) = nI 2 from rfl, inI_f (b := 2) hX (by decide), if_pos rfl]
/-- minutes set down: in the class, in the model -/
def HC (z : zT) (W : Nat → wT) (hd : Nat → Nat) (mi K : Nat) (s t : mb_T) : Prop := (∀ e, e < mi → t.2.1 110 e = s.2.1 110 e ∧ t.2.1 111 e = s.2.1 111 e ∧ ∀ x, x < 5 → t.2.1 112 (5 * e + x) = s.2.1 112 (5 * e + x)) ∧ ∀ k, k < K → t.2.1 110 (mi + k) = nI (hd k) ∧ t.2.1 111 (mi + k) = (W k).2.1 ∧ ∀ x, x < zP z → t.2.1 112 (5 * (mi + k) + x) = (W k).1 x
def HD (z : zT) (W : Nat → wT) (hd : Nat → Nat) (mi K : Nat) (s t : mb_T) : Prop := (∀ e, e < mi → t.2.1 226 e = s.2.1 226 e ∧ t.2.1 227 (6 * e) = s.2.1 227 (6 * e) ∧ ∀ x, x < 5 → t.2.1 227 (6 * e + 1 + x) = s.2.1 227 (6 * e + 1 + x)) ∧ ∀ k, k < K → t.2.1 226 (mi + k) = nI (hd k) ∧ t.2.1 227 (6 * (mi + k)) = (W k).2.1 ∧ ∀ x, x < zP z → t.2.1 227 (6 * (mi + k) + 1 + x) = (W k).1 x
theorem HIS_n {W : Nat → wT} {hd : Nat → Nat} {mi : Nat} (h5 : zP z ≤ 5) (H : HIS (zP z) mi (s.2.1 110) (s.2.1 111) (s.2.1 112) (s.2.1 226) (s.2.1 227)) (C : HC z W hd mi K s t) (D : HD z W hd mi K s t) (h1 : ∀ k, k < K → hd k < zP z) (h2 : ∀ k, k < K → wrg z (W k)) : HIS (zP z) (mi + K) (t.2.1 110) (t.2.1 111) (t.2.1 112) (t.2.1 226) (t.2.1 227) := by
  intro e he
  by_cases c : e < mi
  · obtain ⟨a1, a2, a3, a4⟩ := H e c
    obtain ⟨b1, b2, b3⟩ := C.1 e c
    obtain ⟨d1, d2, d3⟩ := D.1 e c
    rw [b1, b2, d1, d2]
    refine ⟨a1, a2, a3, fun x hx => ?_⟩
    rw [b3 x (by omega), d3 x (by omega)]
    exact a4 x hx
  · obtain ⟨k, rfl⟩ : ∃ k, e = mi + k := ⟨e - mi, by omega⟩
    obtain ⟨b1, b2, b3⟩ := C.2 k (by omega)
    obtain ⟨d1, d2, d3⟩ := D.2 k (by omega)
    rw [b1, b2, d1, d2]
    refine ⟨⟨_, h1 k (by omega), rfl⟩, rfl, rfl, fun x hx => ?_⟩
    rw [b3 x hx, d3 x hx]
    exact ⟨rfl, h2 k (by omega) x hx⟩
theorem pC_pm (hn : 200 ≤ n) (A : HA z w t) (Vv : HV 100 r z w t) (hm : w.2.2.1 = nI m) (h120 : m < 120) (hh : h < zP z) : ∃ u, f_C_passMinute n (nI h) t = some u ∧ HA z (stp z h w) u ∧ HV 100 r z (stp z h w) u ∧ Fr [(40, 2), (40, 4), (40, 5), (100, 3), (100, 4)] [48, 49, 106, 110, 111, 112] t u ∧ u.2.1 110 = upd (t.2.1 110) m (nI h) ∧ u.2.1 111 = upd (t.2.1 111) m w.2.1 ∧ (∀ j, (j < 5 * m ∨ 5 * m + 5 ≤ j) → u.2.1 112 j = t.2.1 112 j) ∧ ∀ x, x < zP z → u.2.1 112 (5 * m + x) = w.1 x := by
  obtain ⟨v1, v2, v3, v4, v5, -, v7⟩ := Vv
  obtain ⟨t3, e3⟩ : ∃ t3, t3 = sV (sA (sA t 110 m (nI h)) 111 m w.2.1) 112 (va_cpy (t.2.1 106) (t.2.1 112) 0 (5 * m) 5) := ⟨_, rfl⟩
  have c1 : f_V_remember n 100 (nI h) t = some t3 := by
    unfold f_V_remember
    rw [v5, hm, if_neg (show ¬ (120 : Int32) ≤ nI m from npi (p := 120) (by decide) h120), wrI (by omega) (by decide)]
    rw [show (sA t (100 + 10) m (nI h)).1 100 4 = nI m by rw [← hm, ← v5]; rfl, show (sA t (100 + 10) m (nI h)).1 100 3 = w.2.1 from v4, wrI (by omega) (by decide)]
    rw [show (sA (sA t (100 + 10) m (nI h)) (100 + 11) m w.2.1).1 100 4 = nI m by rw [← hm, ← v5]; rfl, nI_5m]
    have e := cpI (s := sA (sA t (100 + 10) m (nI h)) (100 + 11) m w.2.1) (sp := 0) (dp := 5 * m) (m := 5) (n0 := 5) (n1 := 600) (a0 := 100 + 6) (a1 := 100 + 12) (k := fun s_8 => some s_8) (by omega) (by omega) (by decide) (by decide)
    rw [e3]
    exact e
  have f3 : Fr [] [110, 111, 112] t t3 := by
    rw [e3]
    exact FrT (FrT (FrA (q := 110)) (FrA (q := 111)) (ks := []) (cs := [110, 111])) (FrV (q := 112))
  obtain ⟨t4, c4, f4, A4⟩ := pA_pass hn (HAfr A f3) hh
  obtain ⟨u, eu⟩ : ∃ u, u = sV (sF (sF t4 100 3 (t4.1 40 2)) 100 4 (t4.1 40 4)) 106 (va_cpy (t4.2.1 48) (t4.2.1 106) 0 0 5) := ⟨_, rfl⟩
  have f5 : Fr [(100, 3), (100, 4)] [106] t4 u := by
    rw [eu]
    exact FrT (FrT (FrF (i := 100) (k := 3)) (FrF (i := 100) (k := 4)) (ks := [(100, 3), (100, 4)]) (cs := [])) (FrV (q := 106))
  have F : Fr [(40, 2), (40, 4), (40, 5), (100, 3), (100, 4)] [48, 49, 106, 110, 111, 112] t u := FrT (FrT f3 f4 (ks := [(40, 2), (40, 4), (40, 5)]) (cs := [48, 49, 110, 111, 112])) f5
  have c5 : f_V_take n 100 t4 = some u := by
    unfold f_V_take
    rw [bdS, bdS, cp5, eu]
    rfl
  have g110 : u.2.1 110 = upd (t.2.1 110) m (nI h) := by
    rw [f5.2.1 110 (by decide), f4.2.1 110 (by decide), e3]; rfl
  refine ⟨u, ?_, HAfr A4 f5, ?_, F, g110, ?_, ?_, ?_⟩
  · unfold f_C_passMinute
    rw [c1, cwS2, c4, cwS2, c5, cwS2]
  · refine ⟨v1, ?_, ?_, ?_, ?_, ⟨m + 1, by omega, ?_, fun q => by omega, fun _ => ⟨?_, ?_⟩⟩, fun x hx => ?_⟩
    · rw [F.1 100 0 (by decide)]; exact v2
    · rw [F.1 100 1 (by decide)]; exact v3
    · rw [eu]
      show t4.1 40 2 = _
      exact A4.2.2.1
    · rw [eu]
      show t4.1 40 4 = _
      exact A4.2.2.2.2.1
    · show w.2.2.1 + 1 = _
      rw [hm, nI_1]
    · show u.2.1 110 (m + 1 - 1) = nI h
      rw [g110, Nat.add_sub_cancel, updI, if_pos rfl]
    · intro c; cases c
    · obtain ⟨b1, b2, b3, b4, b5⟩ := v7 x hx
      rw [F.2.1 (100 + 5) (by decide), F.2.1 (100 + 7) (by decide), F.2.1 (100 + 8) (by decide), F.2.1 (100 + 9) (by decide)]
      refine ⟨b1, ?_, b3, b4, b5⟩
      rw [eu]
      show va_cpy (t4.2.1 48) (t4.2.1 106) 0 0 5 x = _
      rw [va5 (by omega)]
      exact (A4.2.2.2.2.2.2.2 x hx).2.1
  · rw [f5.2.1 111 (by decide), f4.2.1 111 (by decide), e3]; rfl
  · intro j hj
    rw [f5.2.1 112 (by decide), f4.2.1 112 (by decide), e3]
    show va_cpy (t.2.1 106) (t.2.1 112) 0 (5 * m) 5 j = _
    rw [cpy_o hj]
  · intro x hx
    rw [f5.2.1 112 (by decide), f4.2.1 112 (by decide), e3]
    show va_cpy (t.2.1 106) (t.2.1 112) 0 (5 * m) 5 (5 * m + x) = _
    rw [cpy_i (by omega), show 0 + x = x by omega]
    exact (v7 x hx).2.1
theorem pM_gm18 (hn : 200 ≤ n) (hm : s.1 200 24 = nI m) (h120 : m < 120) {k0 : Int32 → mb_T → Option mb_T} : f_M_goMinute_18 n k0 Y n 0 s = k0 (nI 5) (sV s 227 (va_cpy (s.2.1 213) (s.2.1 227) 0 (6 * m + 1) 5)) := by
  have e := lp (F := fun f (t : Int32 × mb_T) => f_M_goMinute_18 n k0 Y f t.1 t.2) (R := k0 (nI 5) (sV s 227 (va_cpy (s.2.1 213) (s.2.1 227) 0 (6 * m + 1) 5))) (fun i => (nI i, sV s 227 (va_cpy (s.2.1 213) (s.2.1 227) 0 (6 * m + 1) i))) 5 ?_ ?_ n (by omega)
  · dsimp only at e
    rw [cpy_0, sVid] at e
    exact e
  · intro i hi f
    dsimp only
    have g : (sV s 227 (va_cpy (s.2.1 213) (s.2.1 227) 0 (6 * m + 1) i)).2.1 213 i = s.2.1 213 (0 + i) := by rw [sV2, if_neg (by decide), show 0 + i = i by omega]
    have g2 : (sV s 227 (va_cpy (s.2.1 213) (s.2.1 227) 0 (6 * m + 1) i)).1 200 24 = nI m := hm
    rw [f_M_goMinute_18.eq_2, if_neg (show ¬ (5 : Int32) ≤ nI i from npi (p := 5) (by decide) hi), rdI (by omega) (by decide), g2, nI_6m, nI_1, nI_add, wrI (by omega) (by decide), g, sAV, nI_1, cpy_s]
  · intro f
    dsimp only
    rw [f_M_goMinute_18.eq_2, if_pos (show (5 : Int32) ≤ nI 5 by decide)]
theorem pM_gm (hn : 200 ≤ n) (A : HM z w t) (Z : zok z) (hm : w.2.2.1 = nI m) (h120 : m < 120) (hh : h < zP z) : ∃ u, f_M_goMinute n (nI h) t = some u ∧ HM z (stp z h w) u ∧ Fr [(200, 11), (200, 24), (200, 25)] [213, 226, 227, 228] t u ∧ u.2.1 226 = upd (t.2.1 226) m (nI h) ∧ (∀ j, (j < 6 * m ∨ 6 * m + 6 ≤ j) → u.2.1 227 j = t.2.1 227 j) ∧ u.2.1 227 (6 * m) = w.2.1 ∧ ∀ x, x < zP z → u.2.1 227 (6 * m + 1 + x) = w.1 x := by
  have h5 := A.1
  obtain ⟨t3, e3⟩ : ∃ t3, t3 = sA (sV (sA t 227 (6 * m) w.2.1) 227 (va_cpy (t.2.1 213) (upd (t.2.1 227) (6 * m) w.2.1) 0 (6 * m + 1) 5)) 226 m (nI h) := ⟨_, rfl⟩
  have f3 : Fr [] [226, 227] t t3 := by
    rw [e3]
    exact FrT (FrT (FrA (q := 227)) (FrV (q := 227)) (ks := []) (cs := [227])) (FrA (q := 226))
  obtain ⟨u, c4, f4, A4⟩ := pM_pass hn (HMfr A f3) Z hh
  have m24 : t.1 200 24 = nI m := by rw [A.2.2.2.1, hm]
  have g227 : u.2.1 227 = va_cpy (t.2.1 213) (upd (t.2.1 227) (6 * m) w.2.1) 0 (6 * m + 1) 5 := by
    rw [f4.2.1 227 (by decide), e3]; rfl
  refine ⟨u, ?_, A4, FrT f3 f4, ?_, ?_, ?_, ?_⟩
  · unfold f_M_goMinute
    rw [m24, nI_6m, wrI (by omega) (by decide), A.2.2.1, pM_gm18 hn (show (sA t 227 (6 * m) w.2.1).1 200 24 = nI m from m24) h120]
    rw [show (sV (sA t 227 (6 * m) w.2.1) 227 (va_cpy ((sA t 227 (6 * m) w.2.1).2.1 213) ((sA t 227 (6 * m) w.2.1).2.1 227) 0 (6 * m + 1) 5)).1 200 24 = nI m from m24, wrI (by omega) (by decide)]
    rw [show sA (sV (sA t 227 (6 * m) w.2.1) 227 (va_cpy ((sA t 227 (6 * m) w.2.1).2.1 213) ((sA t 227 (6 * m) w.2.1).2.1 227) 0 (6 * m + 1) 5)) 226 m (nI h) = t3 by rw [e3]; rfl, c4, cwS2]
  · rw [f4.2.1 226 (by decide), e3]; rfl
  · intro j hj
    rw [g227, cpy_o (by omega), updI, if_neg (by omega)]
  · rw [g227, cpy_o (by omega), updI, if_pos rfl]
  · intro x hx
    rw [g227, cpy_i (by omega), show 0 + x = x by omega]
    exact (A.2.2.2.2.2.2.2.2 x hx).2.1
end RH
