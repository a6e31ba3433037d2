/-! the pure part: aside begins as the cave is now -/
section PQ
variable {s t : mb_T} {n p a b q m i c : Nat} {v : Int32} {z : zT} {w : wT} {r : Bool}
theorem HVfr {fs : List (Nat × Nat)} {as : List Nat} (H : HV 100 r z w s) (h : Fr fs as s t) (hf : ∀ k, k < 5 → (100, k) ∉ fs := by decide) (ha : (∀ q, q < 11 → (100 + q) ∉ as) := by decide) : HV 100 r z w t := by
  obtain ⟨h5, hp, hr, ho, hm, hl, hx⟩ := H
  refine ⟨h5, ?_, ?_, ?_, ?_, ?_, ?_⟩
  · rw [h.1 100 0 (hf 0 (by decide))]; exact hp
  · rw [h.1 100 1 (hf 1 (by decide))]; exact hr
  · rw [h.1 100 3 (hf 3 (by decide))]; exact ho
  · rw [h.1 100 4 (hf 4 (by decide))]; exact hm
  · rw [h.2.1 (100 + 10) (ha 10 (by decide))]; exact hl
  · rw [h.2.1 (100 + 5) (ha 5 (by decide)), h.2.1 (100 + 6) (ha 6 (by decide)), h.2.1 (100 + 7) (ha 7 (by decide)), h.2.1 (100 + 8) (ha 8 (by decide)), h.2.1 (100 + 9) (ha 9 (by decide))]; exact hx
theorem cp5 {β : Type} {k : mb_T → Option β} {a0 a1 : Nat} : mb_cp s a0 5 a1 5 0 0 5 k = k (sV s a1 (va_cpy (s.2.1 a0) (s.2.1 a1) 0 0 5)) := cpI (sp := 0) (dp := 0) (m := 5) (by omega) (by omega) (by decide) (by decide)
theorem va5 {f g : Nat → Int32} {x : Nat} (hx : x < 5) : va_cpy f g 0 0 5 x = f x := by
  unfold va_cpy
  rw [if_pos (by omega), show 0 + (x - 0) = x by omega]
theorem sitB_z : ∀ p, p < 6 → ∀ r : Bool, (∀ x, x < p → ∃ m, m < 32 ∧ sitB id p r x = nI m) ∧ ∀ x, x < p → ∀ y, y < p → bt (sitB id p r x) y = bt (sitB id p r y) x := by decide +kernel
theorem zcv_ok (C : zcv r z) (h5 : zP z ≤ 5) : zok z := by
  obtain ⟨d1, d2⟩ := sitB_z (zP z) (by omega) r
  rw [← C.1] at d1 d2
  exact ⟨h5, d1, fun x y hx hy => d2 x hx y hy⟩
theorem q_begin (hn : 200 ≤ n) (H : HV 100 r z w s) (C : zcv r z) : ∃ t, f_A_begin n 100 s = some t ∧ Fr [(40, 0), (40, 1), (40, 2), (40, 3), (40, 4), (40, 5), (40, 6)] [47, 48, 50, 51, 52, 53, 54] s t ∧ HA z w t ∧ t.1 40 1 = (if r = true then 1 else 0) := by
  have h5 := H.1
  have Z := zcv_ok C h5
  have hx := H.2.2.2.2.2.2
  have f1 : Fr [(40, 0), (40, 1), (40, 2), (40, 3), (40, 4)] [] s (sF (sF (sF (sF (sF s 40 0 (s.1 100 0)) 40 1 (s.1 100 1)) 40 2 (s.1 100 3)) 40 3 0) 40 4 (s.1 100 4)) := FrT (FrT (FrT (FrT (FrF (i := 40) (k := 0)) (FrF (i := 40) (k := 1)) (ks := [(40, 0), (40, 1)]) (cs := [])) (FrF (i := 40) (k := 2)) (ks := [(40, 0), (40, 1), (40, 2)]) (cs := [])) (FrF (i := 40) (k := 3)) (ks := [(40, 0), (40, 1), (40, 2), (40, 3)]) (cs := [])) (FrF (i := 40) (k := 4))
  have H1 : HV 100 r z w (sF (sF (sF (sF (sF s 40 0 (s.1 100 0)) 40 1 (s.1 100 1)) 40 2 (s.1 100 3)) 40 3 0) 40 4 (s.1 100 4)) := HVfr H f1
  generalize e1 : sF (sF (sF (sF (sF s 40 0 (s.1 100 0)) 40 1 (s.1 100 1)) 40 2 (s.1 100 3)) 40 3 0) 40 4 (s.1 100 4) = s1 at f1 H1
  have b0 : s1.1 40 0 = nI (zP z) := by rw [← e1]; exact H.2.1
  have b1 : s1.1 40 1 = (if r = true then 1 else 0) := by rw [← e1]; exact H.2.2.1
  have b2 : s1.1 40 2 = w.2.1 := by rw [← e1]; exact H.2.2.2.1
  have b3 : s1.1 40 3 = zE z := by rw [← e1, C.2.2]; rfl
  have b4 : s1.1 40 4 = w.2.2.1 := by rw [← e1]; exact H.2.2.2.2.1
  have ek : mkB (fun x => ofK (s1.2.1 (100 + 5) x) 3) (zP z) = zM z := by
    rw [C.2.1]
    exact mkB_c fun i hi => by rw [(H1.2.2.2.2.2.2 i hi).1]
  have f2 : Fr [(40, 5), (40, 6)] [] s1 (sF (sF s1 40 5 (oC w.2.2.2)) 40 6 (zM z)) := FrT (FrF (i := 40) (k := 5)) (FrF (i := 40) (k := 6))
  have H1b : HV 100 r z w (sF s1 40 5 (oC w.2.2.2)) := HVfr H1 (FrF (i := 40) (k := 5))
  have H2 : HV 100 r z w (sF (sF s1 40 5 (oC w.2.2.2)) 40 6 (zM z)) := HVfr H1 f2
  obtain ⟨s2, e2⟩ : ∃ s2, s2 = sF (sF s1 40 5 (oC w.2.2.2)) 40 6 (zM z) := ⟨_, rfl⟩
  rw [← e2] at f2 H2
  have c0 : s2.1 40 0 = nI (zP z) := by rw [e2]; exact b0
  have c1 : s2.1 40 1 = (if r = true then 1 else 0) := by rw [e2]; exact b1
  have c2 : s2.1 40 2 = w.2.1 := by rw [e2]; exact b2
  have c3 : s2.1 40 3 = zE z := by rw [e2]; exact b3
  have c4 : s2.1 40 4 = w.2.2.1 := by rw [e2]; exact b4
  have c5 : s2.1 40 5 = oC w.2.2.2 := by rw [e2]; rfl
  have c6 : s2.1 40 6 = zM z := by rw [e2]; rfl
  obtain ⟨s3, e3⟩ : ∃ s3, s3 = sV (sV (sV (sV (sV s2 47 (va_cpy (s2.2.1 105) (s2.2.1 47) 0 0 5)) 48 (va_cpy (s2.2.1 106) (s2.2.1 48) 0 0 5)) 50 (va_cpy (s2.2.1 107) (s2.2.1 50) 0 0 5)) 51 (va_cpy (s2.2.1 108) (s2.2.1 51) 0 0 5)) 52 (va_cpy (s2.2.1 109) (s2.2.1 52) 0 0 5) := ⟨_, rfl⟩
  have f3 : Fr [] [47, 48, 50, 51, 52] s2 s3 := by
    rw [e3]
    exact FrT (FrT (FrT (FrT (FrV (q := 47)) (FrV (q := 48)) (ks := []) (cs := [47, 48])) (FrV (q := 50)) (ks := []) (cs := [47, 48, 50])) (FrV (q := 51)) (ks := []) (cs := [47, 48, 50, 51])) (FrV (q := 52))
  have E : f_A_begin n 100 s = f_A_begin_134 n (fun x_41 s_42 => mb_jn (fun (s_48 : mb_T) => mb_cw (f_A_countCalmBeside n s_48) fun s_49 => some s_49) fun j_43 => if (s_42.1 40 1) = 1 then (if (s_42.1 40 0) ≤ 2 then j_43 s_42 else mb_cw (f_A_seatTogether n 0 ((s_42.1 40 0) - 1) s_42) fun s_46 => j_43 s_46) else j_43 s_42) n 1 (sV s3 53 (foU (fun _ => 0) (s3.2.1 53) 5)) := by
    unfold f_A_begin
    simp only [mb_bd]
    change mb_cl (f_V_lastHolder n 100 (sF (sF (sF (sF (sF s 40 0 (s.1 100 0)) 40 1 (s.1 100 1)) 40 2 (s.1 100 3)) 40 3 0) 40 4 (s.1 100 4))) _ = _
    rw [e1, p_lastHolder H1, clS, p_bitsOfKind hn H1b.2.1 h5, clS]
    change (mb_cp (sF (sF s1 40 5 (oC w.2.2.2)) 40 6 (mkB (fun x => ofK (s1.2.1 (100 + 5) x) 3) (zP z))) _ _ _ _ _ _ _ _) = _
    rw [ek, ← e2, cp5, cp5, cp5, cp5, cp5]
    change mb_cw (f_Y_fillI n 53 5 0 (sV (sV (sV (sV (sV s2 47 (va_cpy (s2.2.1 105) (s2.2.1 47) 0 0 5)) 48 (va_cpy (s2.2.1 106) (s2.2.1 48) 0 0 5)) 50 (va_cpy (s2.2.1 107) (s2.2.1 50) 0 0 5)) 51 (va_cpy (s2.2.1 108) (s2.2.1 51) 0 0 5)) 52 (va_cpy (s2.2.1 109) (s2.2.1 52) 0 0 5))) _ = _
    rw [← e3, p_fillI (by decide) (by omega), cwS2]
  have c30 : (sV s3 53 (foU (fun _ => 0) (s3.2.1 53) 5)).1 40 0 = nI (zP z) := by
    show s3.1 40 0 = _
    rw [f3.1 40 0 (by decide)]; exact c0
  obtain ⟨G, eG⟩ : ∃ G, G = foU (fun _ => 0) (s3.2.1 53) 5 := ⟨_, rfl⟩
  have G0 : ∀ x, x < 5 → G x = 0 := fun x hx => by rw [eG, foU_get, if_pos hx]
  have E2 : f_A_begin n 100 s = f_A_countCalmBeside n (sV s3 53 (sitX id G (zP z) r)) := by
    rw [E, p_begin_134 hn c30 h5, mb_jn, sVV, sV2, if_pos rfl, ← eG]
    have cw : ∀ u, (mb_cw (f_A_countCalmBeside n u) fun s_49 => some s_49) = f_A_countCalmBeside n u := by
      intro u
      unfold mb_cw
      cases f_A_countCalmBeside n u <;> rfl
    simp only [cw]
    have d1 : (sV s3 53 (sitG id G (zP z - 1))).1 40 1 = (if r = true then 1 else 0) := by
      show s3.1 40 1 = _
      rw [f3.1 40 1 (by decide)]; exact c1
    have d0 : (sV s3 53 (sitG id G (zP z - 1))).1 40 0 = nI (zP z) := by
      show s3.1 40 0 = _
      rw [f3.1 40 0 (by decide)]; exact c0
    rw [d1, d0]
    unfold sitX
    cases r with
    | false => rw [if_neg (by decide), if_neg (fun h => by cases h.1)]
    | true =>
      rw [if_pos (by decide)]
      by_cases l : 2 < zP z
      · have hn2 : ¬ nI (zP z) ≤ 2 := by
          have := npi (p := zP z) (i := 2) (by omega) l
          exact this
        have hs : nI (zP z) - 1 = nI (zP z - 1) := by
          have := nI_pred (zP z - 1)
          rwa [show zP z - 1 + 1 = zP z by omega] at this
        have ps := p_seat (n := n) (a := 0) (b := zP z - 1) d0 h5 (by omega) (by omega)
        rw [if_neg hn2, if_pos ⟨rfl, l⟩, hs]
        change mb_cw (f_A_seatTogether n (nI 0) (nI (zP z - 1)) (sV s3 53 (sitG id G (zP z - 1)))) _ = _
        rw [ps, cwS2, sVV, sV2, if_pos rfl]
        rfl
      · have hn2 : nI (zP z) ≤ 2 := by
          have := nI_le (a := zP z) (b := 2) (by omega) (by decide)
          exact this
        rw [if_pos hn2, if_neg (fun h => l h.2)]
  have d0 : (sV s3 53 (sitX id G (zP z) r)).1 40 0 = nI (zP z) := c30
  rw [E2, p_countCalm hn h5 d0]
  refine ⟨_, rfl, ?_, ⟨h5, ?_, ?_, ?_, ?_, ?_, ?_, ?_⟩, ?_⟩
  · exact FrT (FrT (FrT (FrT f1 f2 (ks := [(40, 0), (40, 1), (40, 2), (40, 3), (40, 4), (40, 5), (40, 6)]) (cs := [])) f3 (ks := [(40, 0), (40, 1), (40, 2), (40, 3), (40, 4), (40, 5), (40, 6)]) (cs := [47, 48, 50, 51, 52])) (FrV (q := 53)) (ks := [(40, 0), (40, 1), (40, 2), (40, 3), (40, 4), (40, 5), (40, 6)]) (cs := [47, 48, 50, 51, 52, 53])) (FrV (q := 54))
  · show s3.1 40 0 = _
    rw [f3.1 40 0 (by decide)]; exact c0
  · show s3.1 40 2 = _
    rw [f3.1 40 2 (by decide)]; exact c2
  · show s3.1 40 3 = _
    rw [f3.1 40 3 (by decide)]; exact c3
  · show s3.1 40 4 = _
    rw [f3.1 40 4 (by decide)]; exact c4
  · show s3.1 40 5 = _
    rw [f3.1 40 5 (by decide)]; exact c5
  · show s3.1 40 6 = _
    rw [f3.1 40 6 (by decide)]; exact c6
  · intro x hxp
    obtain ⟨x1, x2, x3, x4, x5⟩ := H2.2.2.2.2.2.2 x hxp
    have kd : ∀ y, y < zP z → s3.2.1 47 y = zK z y := by
      intro y hy
      rw [← (H2.2.2.2.2.2.2 y hy).1, e3]
      show va_cpy (s2.2.1 105) (s2.2.1 47) 0 0 5 y = _
      rw [va5 (by omega)]
    have bs : sitX id G (zP z) r x = zB z x := by
      rw [sitX_c G0 (fun i hi => by show i < 5; omega) x (by omega), C.1]
    refine ⟨kd x hxp, ?_, ?_, ?_, ?_, bs, ?_⟩
    · show s3.2.1 48 x = _
      rw [← x2, e3]
      show va_cpy (s2.2.1 106) (s2.2.1 48) 0 0 5 x = _
      rw [va5 (by omega)]
    · show s3.2.1 50 x = _
      rw [← x3, e3]
      show va_cpy (s2.2.1 107) (s2.2.1 50) 0 0 5 x = _
      rw [va5 (by omega)]
    · show s3.2.1 51 x = _
      rw [← x4, e3]
      show va_cpy (s2.2.1 108) (s2.2.1 51) 0 0 5 x = _
      rw [va5 (by omega)]
    · show s3.2.1 52 x = _
      rw [← x5, e3]
      show va_cpy (s2.2.1 109) (s2.2.1 52) 0 0 5 x = _
      rw [va5 (by omega)]
    · obtain ⟨m, m1, m2⟩ := Z.2.1 x hxp
      rw [calmN_e h5 m1 m2]
      show foU (fun x => bcI (sitX id G (zP z) r x &&& mkB (fun y => calmK (s3.2.1 47 y)) (zP z))) _ (zP z) x = _
      rw [foU_get, if_pos hxp, bs, mkB_c (fun i hi => by rw [kd i hi])]
  · show s3.1 40 1 = _
    rw [f3.1 40 1 (by decide)]; exact c1
end PQ
