/-! the pure part: stories, songs; what is told of the cave as it is -/
def ofP (z : zT) (w : wT) (x k : Nat) : Int32 := if k = 0 then zK z x else if k = 1 then w.1 x else if k = 2 then zG z x else if k = 3 then zL z x else if k = 4 then zS z x else shw z w.1 x
section RJ
variable {s t u : mb_T} {n p a b q m i c c1 k x y j l h K mi : Nat} {v : Int32} {z : zT} {w w2 : wT} {r : Bool} {law law2 X Y V U T : Int32} {fs gs ks : List (Nat × Nat)} {as bs cs : List Nat} {hM nM hM2 nM2 : Nat → Int32} {W : Nat → wT} {hd : Nat → Nat}
theorem HVfk (H : HV 100 r z w s) (h : Fk fs as s t) (hf : (∀ k, k < 5 → (100, k) ∉ fs) := by decide) (ha : (∀ q, q < 11 → (100 + q) ∉ as) := by decide) : HV 100 r z w t := by
  obtain ⟨h5, hp, hr, ho, hm, hl, hx⟩ := H
  refine ⟨h5, ?_, ?_, ?_, ?_, ?_, ?_⟩
  · rw [h.1 100 0 (hf 0 (by decide))]; exact hp
  · rw [h.1 100 1 (hf 1 (by decide))]; exact hr
  · rw [h.1 100 3 (hf 3 (by decide))]; exact ho
  · rw [h.1 100 4 (hf 4 (by decide))]; exact hm
  · rw [h.2.1 (100 + 10) (ha 10 (by decide))]; exact hl
  · rw [h.2.1 (100 + 5) (ha 5 (by decide)), h.2.1 (100 + 6) (ha 6 (by decide)), h.2.1 (100 + 7) (ha 7 (by decide)), h.2.1 (100 + 8) (ha 8 (by decide)), h.2.1 (100 + 9) (ha 9 (by decide))]; exact hx
theorem pC_take (A : HA z w2 t) (Vv : HV 100 r z w t) (e : w2.2.2 = w.2.2) : ∃ u, f_V_take n 100 t = some u ∧ HA z w2 u ∧ HV 100 r z w2 u ∧ Fr [(100, 3), (100, 4)] [106] t u := by
  obtain ⟨v1, v2, v3, v4, v5, v6, v7⟩ := Vv
  obtain ⟨u, eu⟩ : ∃ u, u = sV (sF (sF t 100 3 (t.1 40 2)) 100 4 (t.1 40 4)) 106 (va_cpy (t.2.1 48) (t.2.1 106) 0 0 5) := ⟨_, rfl⟩
  have f5 : Fr [(100, 3), (100, 4)] [106] t u := by
    rw [eu]
    exact FrT (FrT (FrF (i := 100) (k := 3)) (FrF (i := 100) (k := 4)) (ks := [(100, 3), (100, 4)]) (cs := [])) (FrV (q := 106))
  refine ⟨u, ?_, HAfr A f5, ⟨v1, ?_, ?_, ?_, ?_, ?_, fun x hx => ?_⟩, f5⟩
  · unfold f_V_take
    rw [bdS, bdS, cp5, eu]
    rfl
  · rw [f5.1 100 0 (by decide)]; exact v2
  · rw [f5.1 100 1 (by decide)]; exact v3
  · rw [eu]
    show t.1 40 2 = _
    exact A.2.2.1
  · rw [eu]
    show t.1 40 4 = _
    exact A.2.2.2.2.1
  · rw [e, f5.2.1 (100 + 10) (by decide)]; exact v6
  · obtain ⟨b1, b2, b3, b4, b5⟩ := v7 x hx
    have h5 := A.1
    rw [f5.2.1 (100 + 5) (by decide), f5.2.1 (100 + 7) (by decide), f5.2.1 (100 + 8) (by decide), f5.2.1 (100 + 9) (by decide)]
    refine ⟨b1, ?_, b3, b4, b5⟩
    rw [eu]
    show va_cpy (t.2.1 48) (t.2.1 106) 0 0 5 x = _
    rw [va5 (by omega)]
    exact (A.2.2.2.2.2.2.2 x hx).2.1
theorem Rel_w (R : Rel s) (H : Cav r z w law s) (h1 : 1 ≤ zP z) (F1 : Fk [(40, 0), (40, 1), (40, 2), (40, 3), (40, 4), (40, 5), (40, 6), (100, 3), (100, 4)] [47, 48, 49, 50, 51, 52, 53, 54, 106] s t) (F2 : Fk [] [213] t u) (V2 : HV 100 r z w2 t) (M2 : HM z w2 u) (e : w2.2.2 = w.2.2) (R2 : wrg z w2) : Rel u := by
  have F : Fk [(40, 0), (40, 1), (40, 2), (40, 3), (40, 4), (40, 5), (40, 6), (100, 3), (100, 4)] [47, 48, 49, 50, 51, 52, 53, 54, 106, 213] s u := FkT (FkI F1) (FkI F2)
  obtain ⟨-, hr, hl, ho, hh⟩ := H.2.2.2.2.2.1
  refine Rel_o R F (by rw [F.1 0 14 (by decide), F.1 200 2 (by decide)]; exact R.2.2.2.1) (Cav_now (w2 := w2) (law2 := law) H F h1 M2 ⟨HVfk V2 F2, ⟨R2, fun g hg => hr.2 g (by rw [← e]; exact hg)⟩, by rw [F.1 100 2 (by decide)]; exact hl, ho, ?_⟩ (by rw [F.1 200 10 (by decide)]; exact H.2.2.2.2.2.2.1 h1))
  intro mi m1 m2
  rw [F.2.1 (100 + 10) (by decide), F.2.1 (100 + 11) (by decide), F.2.1 (100 + 12) (by decide), F.2.1 226 (by decide), F.2.1 227 (by decide)]
  exact hh mi m1 (by rw [← e]; exact m2)
theorem cs_story (hn : 200 ≤ n) : CS (f_C_story n X) (f_M_story n X) := by
  intro s R
  obtain ⟨-, -, -, r4, r, z, w, law, H⟩ := id R
  have h5 := Cav5 H
  obtain ⟨p1, p2⟩ := CavP H
  rcases rngC (x := X) (zP z) (by omega) with ⟨x, hx, rfl⟩ | hX
  · obtain ⟨t, t1, t2, t3, t4⟩ := q_begin hn (CavV H) H.1
    have Mt : HM z w t := HMfr (CavM H) t2
    cases ho : ovr z w with
    | true =>
      refine ⟨-4, t, t, ?_, ?_, Rel_qs R H (Fk_of t2) Mt (by rw [t2.1 0 14 (by decide), t2.1 200 2 (by decide)]; exact r4)⟩
      · unfold f_C_story
        rw [pC_isOne_t p1 h5 hx, clS, if_neg (by decide), t1, cwS2, qA_o1 hn t3 ho, clS, if_neg (by decide)]
      · unfold f_M_story
        rw [pM_isOne_t Mt.2.1 h5 hx, clS, if_neg (by decide), qM_o1 hn Mt ho, clS, if_neg (by decide)]
    | false =>
      obtain ⟨t5, t6, t7, t8⟩ := qA_tellStory hn t3 hx
      obtain ⟨u, u1, u2, u3, u4⟩ := pC_take (n := n) (w := w) t8 (HVfr (HVfr (CavV H) t2) t7) rfl
      have F1 : Fk [(40, 0), (40, 1), (40, 2), (40, 3), (40, 4), (40, 5), (40, 6), (100, 3), (100, 4)] [47, 48, 49, 50, 51, 52, 53, 54, 106] s u := FkT (FkT (FrQ t2) (FrQ t7)) (FrQ u4)
      have Mu : HM z w u := HMfk (CavM H) F1 (by decide) (by decide)
      obtain ⟨v, v1, v2, v3⟩ := pM_tellStory hn Mu (CavN H) (CavR H) H.2.1 ho hx
      refine ⟨sumS (sto z x w.1) (zP z), u, v, ?_, ?_, Rel_w R H (by omega) F1 (Fk_of v2) u3 v3 rfl (sto_r (CavR H))⟩
      · unfold f_C_story
        rw [pC_isOne_t p1 h5 hx, clS, if_neg (by decide), t1, cwS2, qA_o0 hn t3 ho, clS, if_pos rfl, t6, cwS2, u1, cwS2, qA_fearTogether hn u2, clS]
      · unfold f_M_story
        rw [pM_isOne_t Mu.2.1 h5 hx, clS, if_neg (by decide), qM_o0 hn Mu ho, clS, if_pos rfl, v1, cwS2, qM_allFears hn v3, clS]
  · refine ⟨-1, s, s, ?_, ?_, R⟩
    · unfold f_C_story
      rw [pC_isOne_f p1 hX, clS, if_pos rfl]
    · unfold f_M_story
      rw [pM_isOne_f p2 h5 hX, clS, if_pos rfl]
theorem cs_song (hn : 200 ≤ n) : CS (f_C_song n X) (f_M_song n X) := by
  intro s R
  obtain ⟨-, -, -, r4, r, z, w, law, H⟩ := id R
  have h5 := Cav5 H
  obtain ⟨p1, p2⟩ := CavP H
  by_cases a1 : X < 1
  · refine ⟨-1, s, s, by unfold f_C_song; rw [if_pos a1], ?_, R⟩
    unfold f_M_song
    rw [pM_in, clS, inI, if_pos a1, if_pos rfl]
  · by_cases a2 : X ≤ 99
    · have ei : inI X 1 99 = 1 := by rw [inI, if_neg a1, if_neg (Int32.not_lt.mpr a2)]
      obtain ⟨t, t1, t2, t3, t4⟩ := q_begin hn (CavV H) H.1
      have Mt : HM z w t := HMfr (CavM H) t2
      have Rt : Rel t := Rel_qs R H (Fk_of t2) Mt (by rw [t2.1 0 14 (by decide), t2.1 200 2 (by decide)]; exact r4)
      have e0 : t.1 100 0 = nI (zP z) := by rw [t2.1 100 0 (by decide)]; exact p1
      by_cases h0 : zP z = 0
      · refine ⟨-4, t, t, ?_, ?_, Rt⟩
        · unfold f_C_song
          rw [if_neg a1, if_pos a2, t1, cwS2, e0, h0, if_pos (by decide)]
        · unfold f_M_song
          rw [pM_in, clS, ei, if_neg (by decide), Mt.2.1, h0, if_pos (by decide)]
      · have hne : ¬ nI (zP z) = 0 := by rw [p0 h5]; exact h0
        cases ho : ovr z w with
        | true =>
          refine ⟨-4, t, t, ?_, ?_, Rt⟩
          · unfold f_C_song
            rw [if_neg a1, if_pos a2, t1, cwS2, e0, if_neg hne, qA_o1 hn t3 ho, clS, if_neg (by decide)]
          · unfold f_M_song
            rw [pM_in, clS, ei, if_neg (by decide), Mt.2.1, if_neg hne, qM_o1 hn Mt ho, clS, if_neg (by decide)]
        | false =>
          by_cases hg : w.1 (gW w.1 (zP z - 1)) < X
          · obtain ⟨t5, t6, t7, t8⟩ := qA_sing hn t3
            obtain ⟨u, u1, u2, u3, u4⟩ := pC_take (n := n) (w := w) t8 (HVfr (HVfr (CavV H) t2) t7) rfl
            have F1 : Fk [(40, 0), (40, 1), (40, 2), (40, 3), (40, 4), (40, 5), (40, 6), (100, 3), (100, 4)] [47, 48, 49, 50, 51, 52, 53, 54, 106] s u := FkT (FkT (FrQ t2) (FrQ t7)) (FrQ u4)
            have Mu : HM z w u := HMfk (CavM H) F1 (by decide) (by decide)
            obtain ⟨v, v1, v2, v3⟩ := qM_song_t (v := X) (k0 := fun x_20 x_21 s_22 => some ((-4), s_22)) (k1 := fun x_40 s_41 => mb_cl (f_M_allFears n s_41) fun r_44 s_42 => some (r_44, s_42)) hn Mu (CavR H) ((gW_lt (by omega)).mp hg)
            refine ⟨sumS (sng z w.1) (zP z), u, v, ?_, ?_, Rel_w R H (by omega) F1 (Fk_of v2) u3 v3 rfl (sng_r h5 (CavR H))⟩
            · unfold f_C_song
              rw [if_neg a1, if_pos a2, t1, cwS2, e0, if_neg hne, qA_o0 hn t3 ho, clS, if_pos rfl, qA_greatestFear hn t3 (by omega), clS, if_pos hg, t6, cwS2, u1, cwS2, qA_fearTogether hn u2, clS]
            · unfold f_M_song
              rw [pM_in, clS, ei, if_neg (by decide), Mu.2.1, if_neg hne, qM_o0 hn Mu ho, clS, if_pos rfl, v1, qM_allFears hn v3, clS]
          · refine ⟨-4, t, t, ?_, ?_, Rt⟩
            · unfold f_C_song
              rw [if_neg a1, if_pos a2, t1, cwS2, e0, if_neg hne, qA_o0 hn t3 ho, clS, if_pos rfl, qA_greatestFear hn t3 (by omega), clS, if_neg hg]
            · have hl := @gW_le w.1 (zP z - 1)
              unfold f_M_song
              rw [pM_in, clS, ei, if_neg (by decide), Mt.2.1, if_neg hne, qM_o0 hn Mt ho, clS, if_pos rfl, qM_song_f hn Mt (x := gW w.1 (zP z - 1)) (by omega) hg (fun _ _ => rfl)]
    · refine ⟨-1, s, s, by unfold f_C_song; rw [if_neg a1, if_neg a2], ?_, R⟩
      unfold f_M_song
      rw [pM_in, clS, inI, if_neg a1, if_pos (Int32.not_le.mp a2), if_pos rfl]
theorem cs_next (hn : 200 ≤ n) : CS (f_C_next n) (f_M_next n) := by
  intro s R
  obtain ⟨-, -, -, r4, r, z, w, law, H⟩ := id R
  have h5 := Cav5 H
  obtain ⟨p1, p2⟩ := CavP H
  obtain ⟨t, t1, t2, t3, t4⟩ := q_begin hn (CavV H) H.1
  have Mt : HM z w t := HMfr (CavM H) t2
  have Rt : Rel t := Rel_qs R H (Fk_of t2) Mt (by rw [t2.1 0 14 (by decide), t2.1 200 2 (by decide)]; exact r4)
  have e0 : t.1 100 0 = nI (zP z) := by rw [t2.1 100 0 (by decide)]; exact p1
  unfold f_C_next f_M_next
  by_cases h0 : zP z = 0
  · refine ⟨-4, t, t, ?_, ?_, Rt⟩
    · rw [t1, cwS2, e0, h0, if_pos (by decide)]
    · rw [Mt.2.1, h0, if_pos (by decide)]
  · have hne : ¬ nI (zP z) = 0 := by rw [p0 h5]; exact h0
    cases ho : ovr z w with
    | true =>
      refine ⟨-4, t, t, ?_, ?_, Rt⟩
      · rw [t1, cwS2, e0, if_neg hne, qA_o1 hn t3 ho, clS, if_neg (by decide)]
      · rw [Mt.2.1, if_neg hne, qM_o1 hn Mt ho, clS, if_neg (by decide)]
    | false =>
      refine ⟨nI (nxt z law w), t, t, ?_, ?_, Rt⟩
      · rw [t1, cwS2, e0, if_neg hne, qA_o0 hn t3 ho, clS, if_pos rfl, t2.1 100 2 (by decide), (CavL H).1, pA_byLaw hn t3 (CavZ H) (CavW H) (by omega) (CavL H).2, clS]
      · rw [Mt.2.1, if_neg hne, qM_o0 hn Mt ho, clS, if_pos rfl, t2.1 200 10 (by decide), H.2.2.2.2.2.2.1 (by omega), pM_nextBy hn Mt (CavZ H) (CavW H) (mo2_mok (CavO H)) (by omega) (CavL H).2, clS]
/-- a question, with one number told beside -/
theorem Rel_qa (R : Rel s) (H : Cav r z w law s) (h : Fk fs as s t) (H2 : HM z w t) (hf : fs ⊆ qF := by decide) (hs : as ⊆ qA := by decide) (h3 : 223 ∉ as := by decide) (h4 : (200, 22) ∉ fs := by decide) : Rel (sF t 200 2 (t.1 0 14)) := by
  refine Rel_q R H (FkT (FkI h hf hs) (FrQ FrF)) (HMfr H2 FrF) ?_ ?_ rfl
  · show ∀ x, x < 5 → t.2.1 223 x = nI x
    rw [h.2.1 223 h3]; exact H.2.2.2.1
  · show t.1 200 22 = -9
    rw [h.1 200 22 h4]; exact H.2.2.2.2.1
theorem cs_over (hn : 200 ≤ n) : CS (f_C_over n) (f_M_over n) := by
  intro s R
  obtain ⟨-, -, -, r4, r, z, w, law, H⟩ := id R
  obtain ⟨t, t1, t2, t3, t4⟩ := q_begin hn (CavV H) H.1
  have F : Fk [(0, 14), (40, 0), (40, 1), (40, 2), (40, 3), (40, 4), (40, 5), (40, 6)] bgA s (sF t 0 14 (whoS w.1 (zS z) (zP z))) := FkT (FrQ t2) (FrQ FrF)
  have Mt : HM z w (sF t 0 14 (whoS w.1 (zS z) (zP z))) := HMfk (CavM H) F (by decide) (by decide)
  refine ⟨if whoS w.1 (zS z) (zP z) = 0 then 0 else 1, sF t 0 14 (whoS w.1 (zS z) (zP z)), _, ?_, ?_, Rel_qa R H F Mt⟩
  · unfold f_C_over
    rw [t1, cwS2, qA_whoScream hn t3, clS, bdS]
    rfl
  · unfold f_M_over
    rw [qM_screaming hn Mt, clS, qM_isOver hn Mt, clS]
    have e : (if (if ovr z w = true then 1 else 0 : Int32) = 0 then 0 else 1 : Int32) = if whoS w.1 (zS z) (zP z) = 0 then 0 else 1 := by
      unfold ovr
      by_cases c : whoS w.1 (zS z) (zP z) = 0 <;> simp [c]
    rw [e]
    rfl
theorem pC_ofP (hn : 200 ≤ n) (H : Cav r z w law s) (hx : x < zP z) (hk : k < 6) : ∃ t, f_C_ofPerson n (nI x) (nI k) s = some (ofP z w x k, t) ∧ Fr bgF bgA s t := by
  have h5 := Cav5 H
  obtain ⟨x1, x2, x3, x4, x5⟩ := (CavV H).2.2.2.2.2.2 x hx
  have : k = 0 ∨ k = 1 ∨ k = 2 ∨ k = 3 ∨ k = 4 ∨ k = 5 := by omega
  rcases this with rfl | rfl | rfl | rfl | rfl | rfl
  · exact ⟨s, by unfold f_C_ofPerson; rw [if_pos (by decide), rdI (by omega) (by decide), x1]; rfl, FrR⟩
  · exact ⟨s, by unfold f_C_ofPerson; rw [if_neg (by decide), if_pos (by decide), rdI (by omega) (by decide), x2]; rfl, FrR⟩
  · exact ⟨s, by unfold f_C_ofPerson; rw [if_neg (by decide), if_neg (by decide), if_pos (by decide), rdI (by omega) (by decide), x3]; rfl, FrR⟩
  · exact ⟨s, by unfold f_C_ofPerson; rw [if_neg (by decide), if_neg (by decide), if_neg (by decide), if_pos (by decide), rdI (by omega) (by decide), x4]; rfl, FrR⟩
  · exact ⟨s, by unfold f_C_ofPerson; rw [if_neg (by decide), if_neg (by decide), if_neg (by decide), if_neg (by decide), if_pos (by decide), rdI (by omega) (by decide), x5]; rfl, FrR⟩
  · obtain ⟨t, t1, t2, t3, t4⟩ := q_begin hn (CavV H) H.1
    exact ⟨t, by unfold f_C_ofPerson; rw [if_neg (by decide), if_neg (by decide), if_neg (by decide), if_neg (by decide), if_neg (by decide), t1, cwS2, pA_shows t3 hx, clS]; rfl, t2⟩
theorem pM_ofP (H : HM z w s) (hx : x < zP z) (hk : k < 6) : f_M_personOf n (nI x) (nI k) s = some (ofP z w x k, s) := by
  have h5 := H.1
  obtain ⟨x1, x2, x3, x4, x5⟩ := H.2.2.2.2.2.2.2.2 x hx
  have : k = 0 ∨ k = 1 ∨ k = 2 ∨ k = 3 ∨ k = 4 ∨ k = 5 := by omega
  unfold f_M_personOf
  rcases this with rfl | rfl | rfl | rfl | rfl | rfl
  · rw [if_pos (by decide), rdI (by omega) (by decide), x1]; rfl
  · rw [if_neg (by decide), if_pos (by decide), rdI (by omega) (by decide), x2]; rfl
  · rw [if_neg (by decide), if_neg (by decide), if_pos (by decide), rdI (by omega) (by decide), x3]; rfl
  · rw [if_neg (by decide), if_neg (by decide), if_neg (by decide), if_pos (by decide), rdI (by omega) (by decide), x4]; rfl
  · rw [if_neg (by decide), if_neg (by decide), if_neg (by decide), if_neg (by decide), if_pos (by decide), rdI (by omega) (by decide), x5]; rfl
  · rw [if_neg (by decide), if_neg (by decide), if_neg (by decide), if_neg (by decide), if_neg (by decide), pM_showsOf H hx, clS]; rfl
theorem cs_person (hn : 200 ≤ n) : CS (f_C_person n X Y) (f_M_person n X Y) := by
  intro s R
  obtain ⟨-, -, -, r4, r, z, w, law, H⟩ := id R
  have h5 := Cav5 H
  obtain ⟨p1, p2⟩ := CavP H
  rcases rngC (x := X) (zP z) (by omega) with ⟨x, hx, rfl⟩ | hX
  · rcases rngC (x := Y) 6 with ⟨k, hk, rfl⟩ | hY
    · obtain ⟨t, t1, t2⟩ := pC_ofP hn H hx hk
      have F : Fk [(0, 14), (40, 0), (40, 1), (40, 2), (40, 3), (40, 4), (40, 5), (40, 6)] bgA s (sF t 0 14 (ofP z w x k)) := FkT (FrQ t2) (FrQ FrF)
      have Mt := HMfk (CavM H) F (by decide) (by decide)
      refine ⟨1, sF t 0 14 (ofP z w x k), _, ?_, ?_, Rel_qa R H F Mt⟩
      · unfold f_C_person
        rw [pC_isOne_t p1 h5 hx, clS, if_neg (by decide), if_neg (nI_pos (by omega)), if_pos (show nI k ≤ (5 : Int32) from nI_le (b := 5) (by omega) (by decide)), t1, clS, bdS]
      · unfold f_M_person
        rw [pM_isOne_t Mt.2.1 h5 hx, clS, if_neg (by decide), pM_in, clS, show inI (nI k) 0 5 = 1 from inI_t (a := 0) (b := 5) (by omega) (by omega) (by decide), if_neg (by decide), pM_ofP Mt hx hk, clS]
        rfl
    · refine ⟨-1, s, s, ?_, ?_, R⟩
      · unfold f_C_person
        rw [pC_isOne_t p1 h5 hx, clS, if_neg (by decide)]
        rcases hY with h | h
        · rw [if_pos h]
        · rw [if_neg (show ¬ Y ≤ (5 : Int32) from Int32.not_le.mpr (lt_le (a := 5) h (by decide) (by decide)))]; split <;> rfl
      · unfold f_M_person
        rw [pM_isOne_t p2 h5 hx, clS, if_neg (by decide), pM_in, clS, show inI Y 0 5 = 0 from inI_f (b := 5) hY (by decide), if_pos rfl]
  · refine ⟨-1, s, s, ?_, ?_, R⟩
    · unfold f_C_person
      rw [pC_isOne_f p1 hX, clS, if_pos rfl]
    · unfold f_M_person
      rw [pM_isOne_f p2 h5 hX, clS, if_pos rfl]
end RJ
