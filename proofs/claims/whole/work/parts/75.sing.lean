/-! the pure part: a song, saving -/
def sng (z : zT) (fe : Nat → Int32) (x : Nat) : Int32 := if fe x - (1 + sgN (zK z) (zP z)) < 0 then 0 else fe x - (1 + sgN (zK z) (zP z))
section PK
variable {s : mb_T} {n x h p m d : Nat} {z : zT} {w : wT} {am law : Int32}
theorem qA_sing (hn : 200 ≤ n) (H : HA z w s) : ∃ t, f_A_sing n s = some t ∧ Fr [] [48] s t ∧ HA z (sng z w.1, w.2) t := by
  have h5 := H.1
  unfold f_A_sing
  rw [qA_singers hn H, clS]
  obtain ⟨-, hp, ho, he, hm, hl, hz, hx⟩ := H
  have e := lp (F := fun f (t : Int32 × mb_T) => f_A_sing_9 n (fun x_23 s_24 => some s_24) (1 + sgN (zK z) (zP z)) f t.1 t.2) (R := some (sV s 48 (foU (sng z w.1) (s.2.1 48) (zP z)))) (fun i => (nI i, sV s 48 (foU (sng z w.1) (s.2.1 48) i))) (zP z) ?_ ?_ n (by omega)
  · have e2 : sV s 48 (foU (sng z w.1) (s.2.1 48) 0) = s := sVid
    dsimp only at e
    rw [e2] at e
    refine ⟨_, e, FrV, ⟨h5, hp, ho, he, hm, hl, hz, fun x hxp => ?_⟩⟩
    obtain ⟨x1, x2, x3, x4, x5, x6, x7⟩ := hx x hxp
    refine ⟨x1, ?_, x3, x4, x5, x6, x7⟩
    show foU (sng z w.1) (s.2.1 48) (zP z) x = _
    rw [foU_get, if_pos hxp]
  · intro i hi f
    obtain ⟨x1, x2, x3, x4, x5, x6, x7⟩ := hx i hi
    dsimp only
    have hp2 : (sV s 48 (foU (sng z w.1) (s.2.1 48) i)).1 40 0 = nI (zP z) := hp
    have g1 : (sV s 48 (foU (sng z w.1) (s.2.1 48) i)).2.1 48 i = w.1 i := by
      rw [sV2, if_pos rfl, foU_get, if_neg (by omega), x2]
    rw [f_A_sing_9.eq_2, hp2, if_neg (npi (by omega) hi), rdI (by omega) (by decide), wrI (by omega) (by decide), g1, sAV, nI_1, foU_s]
    rfl
  · intro f
    dsimp only
    have hp2 : (sV s 48 (foU (sng z w.1) (s.2.1 48) (zP z))).1 40 0 = nI (zP z) := hp
    rw [f_A_sing_9.eq_2, hp2, if_pos npp]
/-- saved at a place -/
def HS (z : zT) (w : wT) (d : Nat) (s : mb_T) : Prop := (∀ x, x < zP z → s.2.1 56 (8 * d + x) = w.1 x) ∧ s.2.1 56 (8 * d + 5) = w.2.1 ∧ s.2.1 56 (8 * d + 6) = w.2.2.1 ∧ s.2.1 56 (8 * d + 7) = oC w.2.2.2
theorem mul8_d : ∀ d, d < 6 → nI d * 8 = nI (8 * d) ∧ ¬ nI (8 * d) < 0 ∧ ¬ ((Int32.ofNat 48) - 8) < nI (8 * d) := by decide +kernel
theorem nI_5 (a : Nat) : nI a + 5 = nI (a + 5) := nI_add a 5
theorem nI_6 (a : Nat) : nI a + 6 = nI (a + 6) := nI_add a 6
theorem nI_7 (a : Nat) : nI a + 7 = nI (a + 7) := nI_add a 7
theorem qA_save (H : HA z w s) (hd : d < 6) : ∃ t, f_A_save n (nI d) s = some t ∧ Fr [] [56] s t ∧ HA z w t ∧ HS z w d t ∧ ∀ j, j < 8 * d ∨ 8 * d + 8 ≤ j → t.2.1 56 j = s.2.1 56 j := by
  obtain ⟨m1, m2, m3⟩ := mul8_d d hd
  have e := cpI (s := s) (sp := 0) (dp := 8 * d) (m := 5) (n0 := 5) (n1 := 48) (a0 := 48) (a1 := 56) (k := fun s_3 => mb_wr s_3 56 48 (nI (8 * d + 5)) (s_3.1 40 2) fun s_6 => mb_wr s_6 56 48 (nI (8 * d + 6)) (s_6.1 40 4) fun s_9 => mb_wr s_9 56 48 (nI (8 * d + 7)) (s_9.1 40 5) fun s_12 => some s_12) (by omega) (by omega) (by decide) (by decide)
  unfold f_A_save
  rw [m1, if_neg m2, if_neg m3, nI_5, nI_6, nI_7]
  rw [wrI (by omega) (by decide), wrI (by omega) (by decide), wrI (by omega) (by decide), sAV, sAV, sAV] at e
  refine ⟨_, e, FrV, HAfr H FrV, ?_, ?_⟩
  · obtain ⟨h5, hp, ho, he, hm, hl, hz, hx⟩ := H
    refine ⟨fun x hxp => ?_, ?_, ?_, ?_⟩
    · rw [sV2, if_pos rfl, updI, if_neg (by omega), updI, if_neg (by omega), updI, if_neg (by omega)]
      unfold va_cpy
      rw [if_pos (by omega), ← (hx x hxp).2.1, show 0 + (8 * d + x - 8 * d) = x by omega]
    · rw [sV2, if_pos rfl, updI, if_neg (by omega), updI, if_neg (by omega), updI, if_pos rfl]
      exact ho
    · rw [sV2, if_pos rfl, updI, if_neg (by omega), updI, if_pos rfl]
      exact hm
    · rw [sV2, if_pos rfl, updI, if_pos rfl]
      exact hl
  · intro j hj
    rw [sV2, if_pos rfl, updI, if_neg (by omega), updI, if_neg (by omega), updI, if_neg (by omega)]
    unfold va_cpy
    rw [if_neg (by omega)]
theorem qA_restore {w2 : wT} (H : HA z w2 s) (S : HS z w d s) (hd : d < 6) : ∃ t, f_A_restore n (nI d) s = some t ∧ Fr [(40, 2), (40, 4), (40, 5)] [48] s t ∧ HA z w t := by
  obtain ⟨m1, m2, m3⟩ := mul8_d d hd
  have h5 := H.1
  have e := cpI (s := s) (sp := 8 * d) (dp := 0) (m := 5) (n0 := 48) (n1 := 5) (a0 := 56) (a1 := 48) (k := fun s_3 => mb_rd s_3 56 48 (nI (8 * d + 5)) fun x_6 => mb_bd (sF s_3 40 2 x_6) fun s_9 => mb_rd s_9 56 48 (nI (8 * d + 6)) fun x_11 => mb_bd (sF s_9 40 4 x_11) fun s_14 => mb_rd s_14 56 48 (nI (8 * d + 7)) fun x_16 => mb_bd (sF s_14 40 5 x_16) fun s_19 => some s_19) (by omega) (by omega) (by decide) (by decide)
  unfold f_A_restore
  rw [m1, if_neg m2, if_neg m3, nI_5, nI_6, nI_7]
  rw [rdI (by omega) (by decide), bdS, rdI (by omega) (by decide), bdS, rdI (by omega) (by decide), bdS] at e
  refine ⟨_, e, FrT (FrT (FrT FrV FrF (ks := [(40, 2)]) (cs := [48])) FrF (ks := [(40, 2), (40, 4)]) (cs := [48])) FrF, ?_⟩
  obtain ⟨-, hp, ho, he, hm, hl, hz, hx⟩ := H
  refine ⟨h5, hp, S.2.1, he, S.2.2.1, S.2.2.2, hz, fun x hxp => ?_⟩
  obtain ⟨x1, x2, x3, x4, x5, x6, x7⟩ := hx x hxp
  refine ⟨x1, ?_, x3, x4, x5, x6, x7⟩
  show va_cpy (s.2.1 56) (s.2.1 48) (8 * d) 0 5 x = _
  unfold va_cpy
  rw [if_pos (by omega)]
  exact S.1 x hxp
end PK
