/-! the pure part: how fast fears grow, how great they were -/
/-- one's fear grows so -/
def zg (z : zT) (x v : Nat) : zT := (zP z, zK z, upd (zG z) x (nI v), zL z, zS z, zB z, zM z, zE z)
/-- one's fear is so -/
def wf (w : wT) (x v : Nat) : wT := (upd w.1 x (nI v), w.2)
section SC
variable {s t u : mb_T} {n p a b q m i c c1 k x y j l h K mi na : Nat} {v : Int32} {z : zT} {w w2 : wT} {r : Bool} {law law2 X Y V U T : Int32} {g : Nat → Int32} {hd : Nat → Nat} {fs : List (Nat × Nat)} {as : List Nat}
theorem cs_grows (hn : 200 ≤ n) : CS (f_C_grows n X Y) (f_M_grows n X Y) := by
  intro s R
  obtain ⟨-, -, -, r4, r, z, w, law, H⟩ := id R
  have h5 := Cav5 H
  obtain ⟨p1, p2⟩ := CavP H
  obtain ⟨l1, l2⟩ := CavL H
  rcases rngC (x := X) (zP z) (by omega) with ⟨x, hx, rfl⟩ | hX
  · rcases rngC (x := Y) 6 with ⟨y, hy, rfl⟩ | hY
    · have hne : ¬ nI (zP z) = 0 := by rw [p0 h5]; omega
      rcases hand_c hn R H (by omega) hy with ⟨k, k1, k2, k3, k4⟩ | ⟨m, hd, D⟩
      · refine ⟨-3, fC k s, fM k (fC k s), ?_, ?_, Rel_found R⟩
        · unfold f_C_grows f_C_figuresThatFit
          rw [pC_isOne_t p1 h5 hx, clS, if_neg (by decide), k3, clS, if_neg (by decide), clS]
        · unfold f_M_grows f_M_askedOf
          rw [pM_isOne_t (s := fC k s) p2 h5 hx, clS, if_neg (by decide), pM_isRow_t hy, clS, if_neg (by decide), k4, clS, clS, if_neg (by decide)]
      · obtain ⟨fit, hfit⟩ : ∃ fit : Nat → Bool, fit = fun v => decide (sN (mis (zg z x v) law (w) hd) m = m) := ⟨_, rfl⟩
        have hm60 := D.2.1
        have Zs : ∀ v : Nat, zok (zg z x v) := fun v => (show zok z from CavZ H)
        have Ws : ∀ v : Nat, wok (zg z x v) (w) := fun v => (show wok z w from CavW H)
        have Os : ∀ v : Nat, mo2 (w) := fun v => (show mo2 w from CavO H)
        have LC : ∃ t, Fk bgF aA s t ∧ f_C_grows n (nI x) (nI y) s = some (mkB fit 10, t) := by
          have L := lpE (F := fun f (t : (Int32 × Int32) × mb_T) => f_C_figuresThatFit_31 n (fun x_20 x_21 s_22 => some (x_20, s_22)) (nI x) (nI y) 50 5 f t.1.1 t.1.2 t.2) (R := fun t => some (t.1.1, t.2)) (fun v (t : (Int32 × Int32) × mb_T) => t.1 = (mkB fit v, nI v) ∧ Fk bgF aA s t.2) 10 ?_ ?_ (t0 := ((0, 0), s)) (f := n) ⟨rfl, FkR⟩ (by omega)
          · obtain ⟨⟨⟨c1, c2⟩, t⟩, ⟨q1, q2⟩, q5⟩ := L
            dsimp only at q1 q2 q5
            cases q1
            refine ⟨t, q2, ?_⟩
            unfold f_C_grows f_C_figuresThatFit
            rw [pC_isOne_t p1 h5 hx, clS, if_neg (by decide), pC_hr_t hn p1 h5 (by omega) D, clS, if_pos rfl, q5, clS]
          · rintro i hi ⟨⟨c1, c2⟩, t⟩ ⟨q1, q2⟩
            dsimp only at q1 q2
            cases q1
            obtain ⟨u, u1, u2, u3, u4⟩ := q_begin hn (HVfk (CavV H) q2) H.1
            have Fu : Fk bgF aA s (sA u 50 x (nI i)) := FkT (FkT q2 (FrQ u2)) (FrQ FrA)
            have Au : HA (zg z x i) (w) (sA u 50 x (nI i)) := by
              obtain ⟨g1, g2, g3, g4, g5, g6, g7, g8⟩ := u3
              refine ⟨g1, g2, g3, g4, g5, g6, g7, fun e he => ?_⟩
              obtain ⟨x1, x2, x3, x4, x5, x6, x7⟩ := g8 e he
              refine ⟨x1, x2, ?_, x4, x5, x6, x7⟩
              show upd (u.2.1 50) x (nI i) e = upd (zG z) x (nI i) e
              rw [updI, updI, ← x3]
            obtain ⟨v, v1, v2⟩ := pC_all hn Au (Zs i) (Ws i) (show 1 ≤ zP z by omega) l2 (by rw [Fu.1 100 2 (by decide)]; exact l1) (HDs_fk (z := zg z x i) D Fu)
            refine ⟨((mkB fit (i + 1), nI (i + 1)), v), ⟨rfl, FkT Fu (FrQ v2)⟩, ?_⟩
            intro f
            dsimp only
            rw [f_C_figuresThatFit_31.eq_2, if_neg (show ¬ (10 : Int32) ≤ nI i from npi (p := 10) (by decide) hi), u1, cwS2, wrI (by omega) (by decide), v1, clS, nI_1, mkB_s]
            have hf : fit i = decide (sN (mis (zg z x i) law (w) hd) m = m) := by rw [hfit]
            by_cases d : sN (mis (zg z x i) law (w) hd) m = m
            · rw [if_pos d, hf, decide_eq_true d]; rfl
            · rw [if_neg d, hf, decide_eq_false d]; rfl
          · rintro ⟨⟨c1, c2⟩, t⟩ ⟨q1, q2⟩ f
            dsimp only at q1 q2
            cases q1
            dsimp only
            rw [f_C_figuresThatFit_31.eq_2, if_pos (show (10 : Int32) ≤ nI 10 by decide)]
        obtain ⟨t, Ft, et⟩ := LC
        have Mt := HMfk (CavM H) Ft (by decide) (by decide)
        have Dt := HDs_fk D Ft
        have t10 : t.1 200 10 = law := by rw [Ft.1 200 10 (by decide)]; exact H.2.2.2.2.2.2.1 (by omega)
        have tX : t.2.1 214 x = zG z x := (Mt.2.2.2.2.2.2.2.2 x hx).2.2.1
        have HMs : ∀ (u : mb_T) (i : Nat), HM z w (sA u 214 x (zG z x)) → HM (zg z x i) (w) (sA u 214 x (nI i)) := by
          intro u i M
          obtain ⟨g1, g2, g3, g4, g5, g6, g7, g8, g9⟩ := M
          refine ⟨g1, g2, g3, g4, g5, g6, g7, g8, fun e he => ?_⟩
          obtain ⟨x1, x2, x3, x4, x5⟩ := g9 e he
          refine ⟨x1, x2, ?_, x4, x5⟩
          show upd (u.2.1 214) x (nI i) e = upd (zG z) x (nI i) e
          have x3 : upd (u.2.1 214) x (zG z x) e = zG z e := x3
          rw [updI] at x3 ⊢
          rw [updI]
          by_cases c : e = x
          · rw [if_pos c, if_pos c]
          · rw [if_neg c] at x3 ⊢
            rw [if_neg c]; exact x3
        have HMb : ∀ (u : mb_T) (i : Nat), HM (zg z x i) (w) u → HM z w (sA u 214 x (zG z x)) := by
          intro u i M
          obtain ⟨g1, g2, g3, g4, g5, g6, g7, g8, g9⟩ := M
          refine ⟨g1, g2, g3, g4, g5, g6, g7, g8, fun e he => ?_⟩
          obtain ⟨x1, x2, x3, x4, x5⟩ := g9 e he
          refine ⟨x1, x2, ?_, x4, x5⟩
          show upd (u.2.1 214) x (zG z x) e = zG z e
          have x3 : u.2.1 214 e = upd (zG z) x (nI i) e := x3
          rw [updI] at x3 ⊢
          by_cases c : e = x
          · rw [if_pos c, c]
          · rw [if_neg c] at x3 ⊢
            exact x3
        have M0 : HM z w (sA t 214 x (zG z x)) := by
          have : sA t 214 x (zG z x) = t := by
            unfold sA
            rw [updid2 tX.symm, sVid]
          rw [this]; exact Mt
        have LM : ∃ u, HM z w (sA u 214 x (zG z x)) ∧ Fk [(200, 11), (200, 24), (200, 25), (200, 43)] [213, 214, 228, 230] t u ∧ f_M_grows n (nI x) (nI y) t = some (mkB fit 10, sA u 214 x (zG z x)) := by
          have L := lpE (F := fun f (t : (Int32 × Int32) × mb_T) => f_M_grows_27 n (fun x_20 x_21 s_22 => mb_wr s_22 214 10 (nI x) (zG z x) fun s_23 => some (x_20, s_23)) (nI x) (nI y) (zG z x) f t.1.1 t.1.2 t.2) (R := fun t => some (t.1.1, sA t.2 214 x (zG z x))) (fun v (u : (Int32 × Int32) × mb_T) => u.1 = (mkB fit v, nI v) ∧ HM z w (sA u.2 214 x (zG z x)) ∧ Fk [(200, 11), (200, 24), (200, 25), (200, 43)] [213, 214, 228, 230] t u.2) 10 ?_ ?_ (t0 := ((0, 0), t)) (f := n) ⟨rfl, M0, FkR⟩ (by omega)
          · obtain ⟨⟨⟨c1, c2⟩, u⟩, ⟨q1, q2, q3⟩, q5⟩ := L
            dsimp only at q1 q2 q3 q5
            cases q1
            refine ⟨u, q2, q3, ?_⟩
            unfold f_M_grows f_M_askedOf
            rw [pM_isOne_t Mt.2.1 h5 hx, clS, if_neg (by decide), pM_isRow_t hy, clS, if_neg (by decide), pM_ah_t hn Mt.2.1 h5 Dt, clS, clS, if_pos (by decide), rdI (by omega) (by decide), tX]
            exact q5
          · rintro i hi ⟨⟨c1, c2⟩, u⟩ ⟨q1, q2, q3⟩
            dsimp only at q1 q2 q3
            cases q1
            have Fu : Fk [(200, 11), (200, 24), (200, 25), (200, 43)] [213, 214, 228, 230] t (sA u 214 x (nI i)) := FkT q3 (FrQ FrA)
            have Di := HDs_fk (z := zg z x i) Dt Fu
            obtain ⟨v, v1, v2, v3, v4⟩ := pM_judged hn (HMs u i q2) (Zs i) (Ws i) (Os i) (show 1 ≤ zP z by omega) l2 (by rw [Fu.1 200 10 (by decide)]; exact t10) Di
            have Fv : Fk [(200, 11), (200, 24), (200, 25), (200, 43)] [213, 214, 228, 230] t v := FkT Fu (FrQ v2)
            have e203 : v.2.1 203 y = nI m := by rw [Fv.2.1 203 (by decide)]; exact Dt.2.2.2.1
            refine ⟨((mkB fit (i + 1), nI (i + 1)), v), ⟨rfl, HMb v i v3, Fv⟩, ?_⟩
            intro f
            dsimp only
            have hs := @sN_p (mis (zg z x i) law (w) hd) m
            rw [f_M_grows_27.eq_2, if_neg (show ¬ (9 : Int32) < nI i from nI_nlt (a := 9) (by omega) (by decide)), wrI (by omega) (by decide), v1, clS, rdI hy (by decide), e203, nI_1, mkB_s]
            simp only [nI_eq (show sN (mis (zg z x i) law (w) hd) m < 2 ^ 31 by omega) (show m < 2 ^ 31 by omega)]
            have hf : fit i = decide (sN (mis (zg z x i) law (w) hd) m = m) := by rw [hfit]
            by_cases d : sN (mis (zg z x i) law (w) hd) m = m
            · rw [if_pos d, hf, decide_eq_true d]; rfl
            · rw [if_neg d, hf, decide_eq_false d]; rfl
          · rintro ⟨⟨c1, c2⟩, u⟩ ⟨q1, q2, q3⟩ f
            dsimp only at q1 q2 q3
            cases q1
            dsimp only
            rw [f_M_grows_27.eq_2, if_pos (show (9 : Int32) < nI 10 by decide), wrI (by omega) (by decide)]
        obtain ⟨u, Mu, Fu, eu⟩ := LM
        have Fz : Fk (bgF ++ mF) [47, 48, 49, 50, 51, 52, 53, 54, 55, 56, 213, 214, 228, 230] s (sA u 214 x (zG z x)) := FkT (FkT (FkI Ft) (FkI Fu)) (FrQ FrA)
        exact ⟨_, _, _, et, eu, Rel_qs R H Fz Mu (by rw [Fz.1 0 14 (by decide), Fz.1 200 2 (by decide)]; exact r4)⟩
    · refine ⟨-1, s, s, ?_, ?_, R⟩
      · unfold f_C_grows f_C_figuresThatFit f_C_handingsRefusal
        rw [pC_isOne_t p1 h5 hx, clS, if_neg (by decide), pC_isRow_f hY, clS, if_pos rfl, clS, if_neg (by decide), clS]
      · unfold f_M_grows f_M_askedOf
        rw [pM_isOne_t p2 h5 hx, clS, if_neg (by decide), pM_isRow_f hY, clS, if_pos rfl, clS, if_neg (by decide)]
  · refine ⟨-1, s, s, ?_, ?_, R⟩
    · unfold f_C_grows f_C_figuresThatFit
      rw [pC_isOne_f p1 hX, clS, if_pos rfl, clS]
    · unfold f_M_grows f_M_askedOf
      rw [pM_isOne_f p2 h5 hX, clS, if_pos rfl, clS, if_neg (by decide)]
theorem cs_fears (hn : 200 ≤ n) : CS (f_C_fears n X Y) (f_M_fears n X Y) := by
  intro s R
  obtain ⟨-, -, -, r4, r, z, w, law, H⟩ := id R
  have h5 := Cav5 H
  obtain ⟨p1, p2⟩ := CavP H
  obtain ⟨l1, l2⟩ := CavL H
  rcases rngC (x := X) (zP z) (by omega) with ⟨x, hx, rfl⟩ | hX
  · rcases rngC (x := Y) 6 with ⟨y, hy, rfl⟩ | hY
    · have hne : ¬ nI (zP z) = 0 := by rw [p0 h5]; omega
      rcases hand_c hn R H (by omega) hy with ⟨k, k1, k2, k3, k4⟩ | ⟨m, hd, D⟩
      · refine ⟨-3, fC k s, fM k (fC k s), ?_, ?_, Rel_found R⟩
        · unfold f_C_fears f_C_figuresThatFit
          rw [pC_isOne_t p1 h5 hx, clS, if_neg (by decide), k3, clS, if_neg (by decide), clS]
        · unfold f_M_fears f_M_askedOf
          rw [pM_isOne_t (s := fC k s) p2 h5 hx, clS, if_neg (by decide), pM_isRow_t hy, clS, if_neg (by decide), k4, clS, clS, if_neg (by decide)]
      · obtain ⟨fit, hfit⟩ : ∃ fit : Nat → Bool, fit = fun v => decide (sN (mis (z) law (wf w x v) hd) m = m) := ⟨_, rfl⟩
        have hm60 := D.2.1
        have Zs : ∀ v : Nat, zok (z) := fun v => (show zok z from CavZ H)
        have Ws : ∀ v : Nat, wok z (wf w x v) := fun v => (show wok z w from CavW H)
        have Os : ∀ v : Nat, mo2 (wf w x v) := fun v => (show mo2 w from CavO H)
        have LC : ∃ t, Fk bgF aA s t ∧ f_C_fears n (nI x) (nI y) s = some (mkB fit 10, t) := by
          have L := lpE (F := fun f (t : (Int32 × Int32) × mb_T) => f_C_figuresThatFit_31 n (fun x_20 x_21 s_22 => some (x_20, s_22)) (nI x) (nI y) 48 5 f t.1.1 t.1.2 t.2) (R := fun t => some (t.1.1, t.2)) (fun v (t : (Int32 × Int32) × mb_T) => t.1 = (mkB fit v, nI v) ∧ Fk bgF aA s t.2) 10 ?_ ?_ (t0 := ((0, 0), s)) (f := n) ⟨rfl, FkR⟩ (by omega)
          · obtain ⟨⟨⟨c1, c2⟩, t⟩, ⟨q1, q2⟩, q5⟩ := L
            dsimp only at q1 q2 q5
            cases q1
            refine ⟨t, q2, ?_⟩
            unfold f_C_fears f_C_figuresThatFit
            rw [pC_isOne_t p1 h5 hx, clS, if_neg (by decide), pC_hr_t hn p1 h5 (by omega) D, clS, if_pos rfl, q5, clS]
          · rintro i hi ⟨⟨c1, c2⟩, t⟩ ⟨q1, q2⟩
            dsimp only at q1 q2
            cases q1
            obtain ⟨u, u1, u2, u3, u4⟩ := q_begin hn (HVfk (CavV H) q2) H.1
            have Fu : Fk bgF aA s (sA u 48 x (nI i)) := FkT (FkT q2 (FrQ u2)) (FrQ FrA)
            have Au : HA (z) (wf w x i) (sA u 48 x (nI i)) := by
              obtain ⟨g1, g2, g3, g4, g5, g6, g7, g8⟩ := u3
              refine ⟨g1, g2, g3, g4, g5, g6, g7, fun e he => ?_⟩
              obtain ⟨x1, x2, x3, x4, x5, x6, x7⟩ := g8 e he
              refine ⟨x1, ?_, x3, x4, x5, x6, x7⟩
              show upd (u.2.1 48) x (nI i) e = upd w.1 x (nI i) e
              rw [updI, updI, ← x2]
            obtain ⟨v, v1, v2⟩ := pC_all hn Au (Zs i) (Ws i) (show 1 ≤ zP z by omega) l2 (by rw [Fu.1 100 2 (by decide)]; exact l1) (HDs_fk (z := z) D Fu)
            refine ⟨((mkB fit (i + 1), nI (i + 1)), v), ⟨rfl, FkT Fu (FrQ v2)⟩, ?_⟩
            intro f
            dsimp only
            rw [f_C_figuresThatFit_31.eq_2, if_neg (show ¬ (10 : Int32) ≤ nI i from npi (p := 10) (by decide) hi), u1, cwS2, wrI (by omega) (by decide), v1, clS, nI_1, mkB_s]
            have hf : fit i = decide (sN (mis (z) law (wf w x i) hd) m = m) := by rw [hfit]
            by_cases d : sN (mis (z) law (wf w x i) hd) m = m
            · rw [if_pos d, hf, decide_eq_true d]; rfl
            · rw [if_neg d, hf, decide_eq_false d]; rfl
          · rintro ⟨⟨c1, c2⟩, t⟩ ⟨q1, q2⟩ f
            dsimp only at q1 q2
            cases q1
            dsimp only
            rw [f_C_figuresThatFit_31.eq_2, if_pos (show (10 : Int32) ≤ nI 10 by decide)]
        obtain ⟨t, Ft, et⟩ := LC
        have Mt := HMfk (CavM H) Ft (by decide) (by decide)
        have Dt := HDs_fk D Ft
        have t10 : t.1 200 10 = law := by rw [Ft.1 200 10 (by decide)]; exact H.2.2.2.2.2.2.1 (by omega)
        have tX : t.2.1 213 x = w.1 x := (Mt.2.2.2.2.2.2.2.2 x hx).2.1
        have HMs : ∀ (u : mb_T) (i : Nat), HM z w (sA u 213 x (w.1 x)) → HM (z) (wf w x i) (sA u 213 x (nI i)) := by
          intro u i M
          obtain ⟨g1, g2, g3, g4, g5, g6, g7, g8, g9⟩ := M
          refine ⟨g1, g2, g3, g4, g5, g6, g7, g8, fun e he => ?_⟩
          obtain ⟨x1, x2, x3, x4, x5⟩ := g9 e he
          refine ⟨x1, ?_, x3, x4, x5⟩
          show upd (u.2.1 213) x (nI i) e = upd w.1 x (nI i) e
          have x2 : upd (u.2.1 213) x (w.1 x) e = w.1 e := x2
          rw [updI] at x2 ⊢
          rw [updI]
          by_cases c : e = x
          · rw [if_pos c, if_pos c]
          · rw [if_neg c] at x2 ⊢
            rw [if_neg c]; exact x2
        have HMb : ∀ (u : mb_T) (i : Nat), HM (z) (wf w x i) u → HM z w (sA u 213 x (w.1 x)) := by
          intro u i M
          obtain ⟨g1, g2, g3, g4, g5, g6, g7, g8, g9⟩ := M
          refine ⟨g1, g2, g3, g4, g5, g6, g7, g8, fun e he => ?_⟩
          obtain ⟨x1, x2, x3, x4, x5⟩ := g9 e he
          refine ⟨x1, ?_, x3, x4, x5⟩
          show upd (u.2.1 213) x (w.1 x) e = w.1 e
          have x2 : u.2.1 213 e = upd w.1 x (nI i) e := x2
          rw [updI] at x2 ⊢
          by_cases c : e = x
          · rw [if_pos c, c]
          · rw [if_neg c] at x2 ⊢
            exact x2
        have M0 : HM z w (sA t 213 x (w.1 x)) := by
          have : sA t 213 x (w.1 x) = t := by
            unfold sA
            rw [updid2 tX.symm, sVid]
          rw [this]; exact Mt
        have LM : ∃ u, HM z w (sA u 213 x (w.1 x)) ∧ Fk [(200, 11), (200, 24), (200, 25), (200, 43)] [213, 214, 228, 230] t u ∧ f_M_fears n (nI x) (nI y) t = some (mkB fit 10, sA u 213 x (w.1 x)) := by
          have L := lpE (F := fun f (t : (Int32 × Int32) × mb_T) => f_M_fears_27 n (fun x_20 x_21 s_22 => mb_wr s_22 213 10 (nI x) (w.1 x) fun s_23 => some (x_20, s_23)) (nI x) (nI y) (w.1 x) f t.1.1 t.1.2 t.2) (R := fun t => some (t.1.1, sA t.2 213 x (w.1 x))) (fun v (u : (Int32 × Int32) × mb_T) => u.1 = (mkB fit v, nI v) ∧ HM z w (sA u.2 213 x (w.1 x)) ∧ Fk [(200, 11), (200, 24), (200, 25), (200, 43)] [213, 214, 228, 230] t u.2) 10 ?_ ?_ (t0 := ((0, 0), t)) (f := n) ⟨rfl, M0, FkR⟩ (by omega)
          · obtain ⟨⟨⟨c1, c2⟩, u⟩, ⟨q1, q2, q3⟩, q5⟩ := L
            dsimp only at q1 q2 q3 q5
            cases q1
            refine ⟨u, q2, q3, ?_⟩
            unfold f_M_fears f_M_askedOf
            rw [pM_isOne_t Mt.2.1 h5 hx, clS, if_neg (by decide), pM_isRow_t hy, clS, if_neg (by decide), pM_ah_t hn Mt.2.1 h5 Dt, clS, clS, if_pos (by decide), rdI (by omega) (by decide), tX]
            exact q5
          · rintro i hi ⟨⟨c1, c2⟩, u⟩ ⟨q1, q2, q3⟩
            dsimp only at q1 q2 q3
            cases q1
            have Fu : Fk [(200, 11), (200, 24), (200, 25), (200, 43)] [213, 214, 228, 230] t (sA u 213 x (nI i)) := FkT q3 (FrQ FrA)
            have Di := HDs_fk (z := z) Dt Fu
            obtain ⟨v, v1, v2, v3, v4⟩ := pM_judged hn (HMs u i q2) (Zs i) (Ws i) (Os i) (show 1 ≤ zP z by omega) l2 (by rw [Fu.1 200 10 (by decide)]; exact t10) Di
            have Fv : Fk [(200, 11), (200, 24), (200, 25), (200, 43)] [213, 214, 228, 230] t v := FkT Fu (FrQ v2)
            have e203 : v.2.1 203 y = nI m := by rw [Fv.2.1 203 (by decide)]; exact Dt.2.2.2.1
            refine ⟨((mkB fit (i + 1), nI (i + 1)), v), ⟨rfl, HMb v i v3, Fv⟩, ?_⟩
            intro f
            dsimp only
            have hs := @sN_p (mis (z) law (wf w x i) hd) m
            rw [f_M_fears_27.eq_2, if_neg (show ¬ (9 : Int32) < nI i from nI_nlt (a := 9) (by omega) (by decide)), wrI (by omega) (by decide), v1, clS, rdI hy (by decide), e203, nI_1, mkB_s]
            simp only [nI_eq (show sN (mis (z) law (wf w x i) hd) m < 2 ^ 31 by omega) (show m < 2 ^ 31 by omega)]
            have hf : fit i = decide (sN (mis (z) law (wf w x i) hd) m = m) := by rw [hfit]
            by_cases d : sN (mis (z) law (wf w x i) hd) m = m
            · rw [if_pos d, hf, decide_eq_true d]; rfl
            · rw [if_neg d, hf, decide_eq_false d]; rfl
          · rintro ⟨⟨c1, c2⟩, u⟩ ⟨q1, q2, q3⟩ f
            dsimp only at q1 q2 q3
            cases q1
            dsimp only
            rw [f_M_fears_27.eq_2, if_pos (show (9 : Int32) < nI 10 by decide), wrI (by omega) (by decide)]
        obtain ⟨u, Mu, Fu, eu⟩ := LM
        have Fz : Fk (bgF ++ mF) [47, 48, 49, 50, 51, 52, 53, 54, 55, 56, 213, 214, 228, 230] s (sA u 213 x (w.1 x)) := FkT (FkT (FkI Ft) (FkI Fu)) (FrQ FrA)
        exact ⟨_, _, _, et, eu, Rel_qs R H Fz Mu (by rw [Fz.1 0 14 (by decide), Fz.1 200 2 (by decide)]; exact r4)⟩
    · refine ⟨-1, s, s, ?_, ?_, R⟩
      · unfold f_C_fears f_C_figuresThatFit f_C_handingsRefusal
        rw [pC_isOne_t p1 h5 hx, clS, if_neg (by decide), pC_isRow_f hY, clS, if_pos rfl, clS, if_neg (by decide), clS]
      · unfold f_M_fears f_M_askedOf
        rw [pM_isOne_t p2 h5 hx, clS, if_neg (by decide), pM_isRow_f hY, clS, if_pos rfl, clS, if_neg (by decide)]
  · refine ⟨-1, s, s, ?_, ?_, R⟩
    · unfold f_C_fears f_C_figuresThatFit
      rw [pC_isOne_f p1 hX, clS, if_pos rfl, clS]
    · unfold f_M_fears f_M_askedOf
      rw [pM_isOne_f p2 h5 hX, clS, if_pos rfl, clS, if_neg (by decide)]
end SC
