/-! the pure part: tellers, oil to spare, visits by lots -/
def gf (z : zT) (w : wT) (x : Nat) : Int32 := sto z x w.1 (gW (sto z x w.1) (zP z - 1))
def tlr (g : Nat → Int32) : Nat → Nat × Int32
  | 0 => (0, g 0)
  | i + 1 => if (tlr g i).2 ≤ g (i + 1) then tlr g i else (i + 1, g (i + 1))
theorem tlr_s {g : Nat → Int32} {i : Nat} : tlr g (i + 1) = if (tlr g i).2 ≤ g (i + 1) then tlr g i else (i + 1, g (i + 1)) := rfl
section RL
variable {s t u : mb_T} {n p a b q m i c c1 k x y j l h K mi : Nat} {v : Int32} {z : zT} {w w2 : wT} {r : Bool} {law law2 X Y V U T : Int32} {fs gs ks : List (Nat × Nat)} {as bs cs : List Nat} {hM nM hM2 nM2 : Nat → Int32} {W : Nat → wT} {hd : Nat → Nat}
theorem gf_r (R : wrg z w) (hx : x < zP z) : ∃ f, f ≤ 99 ∧ gf z w x = nI f := by
  have := @gW_le (sto z x w.1) (zP z - 1)
  exact sto_r (h := x) R _ (by omega)
theorem cs_teller (hn : 200 ≤ n) : CS (f_C_teller n) (f_M_teller n) := by
  intro s R
  obtain ⟨-, -, -, r4, r, z, w, law, H⟩ := id R
  have h5 := Cav5 H
  obtain ⟨p1, p2⟩ := CavP H
  obtain ⟨t, t1, t2, t3, t4⟩ := q_begin hn (CavV H) H.1
  have Mt : HM z w t := HMfr (CavM H) t2
  have Rt : Rel t := Rel_qs R H (Fk_of t2) Mt (by rw [t2.1 0 14 (by decide), t2.1 200 2 (by decide)]; exact r4)
  have e0 : t.1 100 0 = nI (zP z) := by rw [t2.1 100 0 (by decide)]; exact p1
  by_cases h0 : zP z = 0
  · refine ⟨-4, t, t, ?_, ?_, Rt⟩
    · unfold f_C_teller
      rw [t1, cwS2, e0, h0, if_pos (by decide)]
    · unfold f_M_teller
      rw [Mt.2.1, h0, if_pos (by decide)]
  · have hne : ¬ nI (zP z) = 0 := by rw [p0 h5]; exact h0
    cases ho : ovr z w with
    | true =>
      refine ⟨-4, t, t, ?_, ?_, Rt⟩
      · unfold f_C_teller
        rw [t1, cwS2, e0, if_neg hne, qA_o1 hn t3 ho, clS, if_neg (by decide)]
      · unfold f_M_teller
        rw [Mt.2.1, if_neg hne, qM_o1 hn Mt ho, clS, if_neg (by decide)]
    | false =>
      obtain ⟨g, hg⟩ : ∃ g : Nat → Int32, g = gf z w := ⟨_, rfl⟩
      have stepC : ∀ t, Fk bgF aA s t → ∀ i, i < zP z → ∃ u u2, f_A_begin n 100 t = some u ∧ f_A_tellStory n (nI i) u = some u2 ∧ f_A_greatestFear n u2 = some (g i, u2) ∧ Fk bgF aA s u2 := by
        intro t Ft i hi
        obtain ⟨u, u1, u2, u3, u4⟩ := q_begin hn (HVfk (CavV H) Ft) H.1
        obtain ⟨v, v1, v2, v3⟩ := qA_tellStory hn u3 hi
        exact ⟨u, v, u1, v1, by rw [hg]; exact qA_greatestFear hn v3 (by omega), FkT (FkT Ft (FrQ u2)) (FrQ v2)⟩
      have LC : ∃ u, Fk bgF aA s u ∧ f_C_teller n s = some (nI (tlr g (zP z - 1)).1, sF u 0 14 (tlr g (zP z - 1)).2) := by
        obtain ⟨u, u2, e1, e2, e4, e3⟩ := stepC t (FrQ t2) 0 (by omega)
        have L := lpE (F := fun f (t : (Int32 × Int32 × Int32) × mb_T) => f_C_teller_40 n (fun x_21 x_22 x_23 s_24 => mb_bd (sF s_24 0 14 x_22) fun s_25 => some (x_21, s_25)) f t.1.1 t.1.2.1 t.1.2.2 t.2) (R := fun t => some (t.1.1, sF t.2 0 14 t.1.2.1)) (fun i (t : (Int32 × Int32 × Int32) × mb_T) => t.1 = (nI (tlr g i).1, (tlr g i).2, nI (i + 1)) ∧ Fk bgF aA s t.2) (zP z - 1) ?_ ?_ (t0 := ((0, g 0, 1), u2)) (f := n - 1) ⟨rfl, e3⟩ (by omega)
        · obtain ⟨⟨⟨a, b, c⟩, t⟩, ⟨p1, p2⟩, p5⟩ := L
          dsimp only at p1 p2 p5
          cases p1
          refine ⟨t, p2, ?_⟩
          have en : n = (n - 1) + 1 := by omega
          unfold f_C_teller
          rw [t1, cwS2, e0, if_neg hne, qA_o0 hn t3 ho, clS, if_pos rfl]
          rename_i t'
          rw [show f_C_teller_40 n (fun x_21 x_22 x_23 s_24 => mb_bd (sF s_24 0 14 x_22) fun s_25 => some (x_21, s_25)) n 0 0 0 t' = f_C_teller_40 n (fun x_21 x_22 x_23 s_24 => mb_bd (sF s_24 0 14 x_22) fun s_25 => some (x_21, s_25)) (n - 1 + 1) 0 0 0 t' by rw [← en]]
          rw [f_C_teller_40.eq_2, e0, if_neg (show ¬ nI (zP z) ≤ (0 : Int32) from nI_nle (by omega) (by omega)), e1, cwS2, show f_A_tellStory n 0 u = some u2 from e2, cwS2, e4, clS, mb_jn, if_pos rfl]
          exact p5
        · rintro i hi ⟨⟨a, b, c⟩, t⟩ ⟨p1, p2⟩
          dsimp only at p1 p2
          cases p1
          obtain ⟨u, u2, e1, e2, e4, e3⟩ := stepC t p2 (i + 1) (by omega)
          refine ⟨((nI (tlr g (i + 1)).1, (tlr g (i + 1)).2, nI (i + 2)), u2), ⟨rfl, e3⟩, ?_⟩
          intro f
          dsimp only
          have hi0 : ¬ nI (i + 1) = 0 := nI_ne0 (by omega) (by omega)
          rw [f_C_teller_40.eq_2, p2.1 100 0 (by decide), ‹s.1 100 0 = nI (zP z)›, if_neg (npi (by omega) (by omega)), e1, cwS2, e2, cwS2, e4, clS, mb_jn, if_neg hi0, nI_1, tlr_s]
          split <;> rfl
        · rintro ⟨⟨a, b, c⟩, t⟩ ⟨p1, p2⟩ f
          dsimp only at p1 p2
          cases p1
          dsimp only
          rw [f_C_teller_40.eq_2, p2.1 100 0 (by decide), ‹s.1 100 0 = nI (zP z)›, if_pos (nI_le (by omega) (by omega)), bdS]
      obtain ⟨u, Fu, eu⟩ := LC
      have Fu2 : Fk cF aA s (sF u 0 14 (tlr g (zP z - 1)).2) := FkT (FkI Fu) (FrQ FrF)
      have Mu := HMfk (CavM H) Fu2 (by decide) (by decide)
      obtain ⟨a, a1, a2, a3, a4⟩ := pM_putAside hn Mu
      have stepM : ∀ t, Fk mF mA a t → HM z w t → HP z w t → ∀ i, i < zP z → ∃ u1 u2 e, f_M_tellStory n (nI i) t = some u1 ∧ f_M_greatest n u1 = some (nI e, u1) ∧ e < 5 ∧ u1.2.1 213 e = g i ∧ f_M_comeBack n u1 = some u2 ∧ HM z w u2 ∧ HP z w u2 ∧ Fk mF mA a u2 := by
        intro t Ft Mt Pt i hi
        obtain ⟨v, v1, v2, v3⟩ := pM_tellStory hn Mt (CavN H) (CavR H) H.2.1 ho hi
        obtain ⟨w2, hw2⟩ : ∃ w2 : wT, w2 = (sto z i w.1, w.2) := ⟨_, rfl⟩
        rw [← hw2] at v3
        have eg : g i = w2.1 (gW w2.1 (zP z - 1)) := by rw [hg, hw2]; rfl
        have Fv : Fk mF mA a v := FkT Ft (FrQ v2)
        have Pv : HP z w v := HPfr Pt v2
        obtain ⟨o, o1, o2, o3⟩ := pM_comeBack hn v3 Pv
        have hl := @gW_le w2.1 (zP z - 1)
        exact ⟨v, o, gW w2.1 (zP z - 1), v1, qM_greatest hn v3 (by omega), by omega, by rw [eg, (v3.2.2.2.2.2.2.2.2 _ (by omega)).2.1], o1, o3, HPfr Pv o2, FkT Fv (FrQ o2)⟩
      have LM : ∃ o, HM z w o ∧ Fk mF mA a o ∧ f_M_teller n (sF u 0 14 (tlr g (zP z - 1)).2) = some (nI (tlr g (zP z - 1)).1, sF o 200 2 (tlr g (zP z - 1)).2) := by
        obtain ⟨u1, u2, e, e1, e2, e3, e4, e5, e6, e7, e8⟩ := stepM a FkR a3 a4 0 (by omega)
        have L := lpE (F := fun f (t : (Int32 × Int32 × Int32) × mb_T) => f_M_teller_28 n (fun x_23 x_24 x_25 s_26 => mb_cl (f_M_ask n x_24 x_23 s_26) fun r_29 s_27 => some (r_29, s_27)) f t.1.1 t.1.2.1 t.1.2.2 t.2) (R := fun t => some (t.1.1, sF t.2 200 2 t.1.2.1)) (fun i (t : (Int32 × Int32 × Int32) × mb_T) => t.1 = (nI (tlr g i).1, (tlr g i).2, nI (i + 1)) ∧ HM z w t.2 ∧ HP z w t.2 ∧ Fk mF mA a t.2) (zP z - 1) ?_ ?_ (t0 := ((0, g 0, 1), u2)) (f := n - 1) ⟨rfl, e6, e7, e8⟩ (by omega)
        · obtain ⟨⟨⟨b1, b2, b3⟩, o⟩, ⟨p1, p2, p3, p4⟩, p5⟩ := L
          dsimp only at p1 p2 p3 p4 p5
          cases p1
          refine ⟨o, p2, p4, ?_⟩
          have en : n = (n - 1) + 1 := by omega
          unfold f_M_teller
          rw [Mu.2.1, if_neg hne, qM_o0 hn Mu ho, clS, if_pos rfl, a1, cwS2]
          rw [show f_M_teller_28 n (fun x_23 x_24 x_25 s_26 => mb_cl (f_M_ask n x_24 x_23 s_26) fun r_29 s_27 => some (r_29, s_27)) n 0 1048576 0 a = f_M_teller_28 n (fun x_23 x_24 x_25 s_26 => mb_cl (f_M_ask n x_24 x_23 s_26) fun r_29 s_27 => some (r_29, s_27)) (n - 1 + 1) 0 1048576 0 a by rw [← en]]
          obtain ⟨f9, f91, f92⟩ := gf_r (CavR H) (show 0 < zP z by omega)
          have g0 : g 0 = nI f9 := by rw [hg]; exact f92
          have hg9 : ¬ (1048576 : Int32) ≤ g 0 := by rw [g0]; exact nI_ge (b := 1048576) (by omega) (by decide)
          rw [f_M_teller_28.eq_2, a3.2.1, if_neg (show ¬ nI (zP z) ≤ (0 : Int32) from nI_nle (by omega) (by omega)), show f_M_tellStory n 0 a = some u1 from e1, cwS2, e2, clS, rdI (by omega) (by decide), e4, e5, cwS2, if_neg hg9, if_neg hg9]
          exact p5
        · rintro i hi ⟨⟨b1, b2, b3⟩, o⟩ ⟨p1, p2, p3, p4⟩
          dsimp only at p1 p2 p3 p4
          cases p1
          obtain ⟨u1, u2, e, e1, e2, e3, e4, e5, e6, e7, e8⟩ := stepM o p4 p2 p3 (i + 1) (by omega)
          refine ⟨((nI (tlr g (i + 1)).1, (tlr g (i + 1)).2, nI (i + 2)), u2), ⟨rfl, e6, e7, e8⟩, ?_⟩
          intro f
          dsimp only
          rw [f_M_teller_28.eq_2, p2.2.1, if_neg (npi (by omega) (by omega)), e1, cwS2, e2, clS, rdI (by omega) (by decide), e4, e5, cwS2, nI_1, tlr_s]
          by_cases c : (tlr g i).2 ≤ g (i + 1)
          · rw [if_pos c, if_pos c, if_pos c]
          · rw [if_neg c, if_neg c, if_neg c]
        · rintro ⟨⟨b1, b2, b3⟩, o⟩ ⟨p1, p2, p3, p4⟩ f
          dsimp only at p1 p2 p3 p4
          cases p1
          dsimp only
          rw [f_M_teller_28.eq_2, p2.2.1, if_pos (nI_le (by omega) (by omega))]
          rfl
      obtain ⟨o, Mo, Fo, eo⟩ := LM
      have Fv : Fk cmF cmA s o := FkT (FkT (FkI Fu2) (FrQ a2)) (FkI Fo)
      have e14 : o.1 0 14 = (tlr g (zP z - 1)).2 := by rw [Fo.1 0 14 (by decide), a2.1 0 14 (by decide)]; rfl
      refine ⟨_, _, sF o 200 2 (o.1 0 14), eu, ?_, Rel_qa R H Fv Mo⟩
      rw [e14]; exact eo
end RL
