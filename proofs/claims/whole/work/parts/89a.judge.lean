/-! the pure part: handings judged, learnt from: the calls -/
theorem sN_c {b c : Nat → Bool} : ∀ {m : Nat}, (∀ k, k < m → b k = c k) → sN b m = sN c m
  | 0, _ => rfl
  | m + 1, h => by rw [sN_s, sN_s, @sN_c b c m (fun k hk => h k (by omega)), h m (by omega)]
theorem sN_all {b : Nat → Bool} {m : Nat} (h : ∀ k, k < m → b k = false) : sN b m = m := by
  obtain ⟨q1, q2, q3⟩ := @sN_p b m
  rcases Nat.lt_or_ge (sN b m) m with l | l
  · have := q3 l
    rw [h _ l] at this
    cases this
  · omega
theorem sN_al {b : Nat → Bool} {m : Nat} (h : sN b m = m) : ∀ k, k < m → b k = false := by
  obtain ⟨q1, q2, q3⟩ := @sN_p b m
  rw [h] at q2
  exact q2
theorem ion_n {p y : Nat} (h : y < p) (hp : p < 2 ^ 31) : ion p (nI y) = true := by
  unfold ion
  rw [decide_eq_false (nI_pos (by omega)), decide_eq_false (npi hp h)]
  rfl
theorem shl_d : ∀ p, p < 6 → (1 <<< (nI p &&& 31) : Int32) = nI (2 ^ p) := by decide +kernel
section SB
variable {s t u : mb_T} {n p a b q m i c c1 k x y j l h K mi na : Nat} {v : Int32} {z : zT} {w w2 : wT} {r : Bool} {law law2 X Y V U T : Int32} {g : Nat → Int32} {hd : Nat → Nat} {fs : List (Nat × Nat)} {as : List Nat}
theorem pC_hr_t (hn : 200 ≤ n) (e : s.1 100 0 = nI (zP z)) (h5 : zP z ≤ 5) (h1 : 1 ≤ zP z) (D : HDs z x m hd s) : f_C_handingsRefusal n (nI x) s = some (0, s) := by
  obtain ⟨hx, hm, e1, e2, e3⟩ := D
  rw [pC_hr hn e h5 h1 hx e1 hm, if_pos (sN_all fun k hk => by
    obtain ⟨f1, f2, f3⟩ := e3 k hk
    rw [f1, ion_n f3 (by omega)]; rfl)]
theorem pM_ah_t (hn : 200 ≤ n) (e : s.1 200 8 = nI (zP z)) (h5 : zP z ≤ 5) (D : HDs z x m hd s) : f_M_askedHandings n (nI x) s = some (0, s) := by
  obtain ⟨hx, hm, e1, e2, e3⟩ := D
  rw [pM_ah hn e h5 hx e2 hm, if_pos (sN_all fun k hk => by
    obtain ⟨f1, f2, f3⟩ := e3 k hk
    rw [f2, ion_n f3 (by omega)]; rfl)]
/-- a row asked as handings -/
theorem hand_c (hn : 200 ≤ n) (R : Rel s) (H : Cav r z w law s) (h1 : 1 ≤ zP z) (hx : x < 6) : (∃ k, 1 ≤ k ∧ k ≤ 5 ∧ f_C_handingsRefusal n (nI x) s = some (-3, fC k s) ∧ f_M_askedHandings n (nI x) (fC k s) = some (-3, fM k (fC k s))) ∨ ∃ m hd, HDs z x m hd s := by
  have h5 := Cav5 H
  obtain ⟨p1, p2⟩ := CavP H
  rcases R.1 x hx with ⟨m, m1, m2, m3, m4⟩ | ⟨m1, m2⟩
  · by_cases c : sN (fun k => !ion (zP z) (s.2.1 (20 + x) k)) m = m
    · right
      have al := sN_al c
      refine ⟨m, fun j => (s.2.1 (20 + x) j).toNatClampNeg, hx, m1, m2, m3, fun j hj => ?_⟩
      have hi : ion (zP z) (s.2.1 (20 + x) j) = true := by
        have := al j hj
        simpa using this
      obtain ⟨y, y1, y2⟩ := ion_t hi (by omega)
      have e9 : (s.2.1 (20 + x) j).toNatClampNeg = y := by rw [y2, nI_clamp (by omega)]
      dsimp only
      rw [e9]
      exact ⟨y2, by rw [← m4 j hj]; exact y2, y1⟩
    · left
      refine ⟨3, by decide, by decide, ?_, ?_⟩
      · rw [pC_hr hn p1 h5 h1 hx m2 m1, if_neg c]
      · rw [pM_ah (s := fC 3 s) hn p2 h5 hx m3 m1, if_neg]
        rw [sN_c (c := fun k => !ion (zP z) (s.2.1 (20 + x) k)) (fun k hk => by rw [m4 k hk]; rfl)]
        exact c
  · left
    refine ⟨1, by decide, by decide, ?_, ?_⟩
    · unfold f_C_handingsRefusal
      rw [pC_isRow_t hx, clS, if_neg (by decide), p1, if_neg (nI_ne0 (by omega) (by omega)), rdI hx (by decide), m1, if_neg (by decide), pC_f1, clS]
    · unfold f_M_askedHandings
      rw [pM_rowR_m (s := fC 1 s) hx m2, clS, if_neg (by decide)]
theorem pC_jdg (hn : 200 ≤ n) (A : HA z w s) (Z : zok z) (W : wok z w) (h1 : 1 ≤ zP z) (hl : lawok law) (el : s.1 100 2 = law) (D : HDs z x m hd s) {k0 : Int32 → Int32 → Int32 → mb_T → Option (Int32 × mb_T)} : ∃ u, f_C_judge_54 n k0 (nI x) (nI m) n (nI m) (ob z w hd 0) 0 s = k0 (nI (sN (mis z law w hd) m)) (ob z w hd m) (nI m) u ∧ Fr [(40, 2), (40, 4), (40, 5)] [48, 49] s u := by
  obtain ⟨hx, hm, e1, e2, e3⟩ := D
  have hw9 : ∀ k, k ≤ m → wok z (hw z w hd k) := fun k hk => hw_ok W (fun j hj => (e3 j hj).2.2) hk
  have h5 := Z.1
  have L := lpE (F := fun f (t : (Int32 × Int32 × Int32) × mb_T) => f_C_judge_54 n k0 (nI x) (nI m) f t.1.1 t.1.2.1 t.1.2.2 t.2) (R := fun t => k0 t.1.1 t.1.2.1 t.1.2.2 t.2) (fun k (t : (Int32 × Int32 × Int32) × mb_T) => t.1 = (if sN (mis z law w hd) k < k then nI (sN (mis z law w hd) k) else nI m, ob z w hd k, nI k) ∧ HA z (hw z w hd k) t.2 ∧ Fr [(40, 2), (40, 4), (40, 5)] [48, 49] s t.2) m ?_ ?_ (t0 := ((nI m, ob z w hd 0, 0), s)) (f := n) ⟨rfl, A, FrR⟩ (by omega)
  · obtain ⟨⟨⟨c1, c2, c3⟩, t⟩, ⟨p1, p2, p3⟩, p5⟩ := L
    dsimp only at p1 p2 p3 p5
    cases p1
    refine ⟨t, ?_, p3⟩
    rw [p5]
    have hs := @sN_p (mis z law w hd) m
    by_cases c : sN (mis z law w hd) m < m
    · rw [if_pos c]
    · rw [if_neg c, show sN (mis z law w hd) m = m by omega]
  · rintro i hi ⟨⟨c1, c2, c3⟩, t⟩ ⟨p1, p2, p3⟩
    dsimp only at p1 p2 p3
    cases p1
    have g2 : t.2.1 (20 + x) i = nI (hd i) := by rw [p3.2.1 (20 + x) (by simp; omega)]; exact (e3 i (by omega)).1
    have g3 : t.1 100 2 = law := by rw [p3.1 100 2 (by decide)]; exact el
    have hdl := (e3 i hi).2.2
    obtain ⟨u, u1, u2, u3⟩ := pA_pass hn p2 hdl
    have hs := @sN_p (mis z law w hd) i
    have hlt := nxt_lt (law := law) Z (hw9 i (by omega)) h1
    have ej : ∀ (C : Int32 → mb_T → Option (Int32 × mb_T)), (if (if sN (mis z law w hd) i < i then nI (sN (mis z law w hd) i) else nI m : Int32) = nI m then (mb_cl (f_A_byLaw n (t.1 100 2) t) fun r_24 s_22 => if r_24 = nI (hd i) then C (if sN (mis z law w hd) i < i then nI (sN (mis z law w hd) i) else nI m : Int32) s_22 else C (nI i) s_22) else C (if sN (mis z law w hd) i < i then nI (sN (mis z law w hd) i) else nI m : Int32) t) = C (if sN (mis z law w hd) (i + 1) < i + 1 then nI (sN (mis z law w hd) (i + 1)) else nI m : Int32) t := by
      intro C
      rw [sN_s]
      by_cases c : sN (mis z law w hd) i < i
      · rw [if_pos c, if_neg (by rw [nI_eq (by omega) (by omega)]; omega), if_pos c, if_pos (by omega)]
      · rw [if_neg c, if_pos rfl, g3, pA_byLaw hn p2 Z (hw9 i (by omega)) h1 hl, clS, if_neg c]
        by_cases d : nxt z law (hw z w hd i) = hd i
        · have hm9 : mis z law w hd i = false := by unfold mis; simp [d]
          rw [d, if_pos rfl]
          simp only [hm9, Bool.false_eq_true, if_false, Nat.lt_irrefl]
        · have hm9 : mis z law w hd i = true := by unfold mis; simp [d]
          rw [if_neg (by rw [nI_eq (by omega) (by omega)]; exact d), hm9, if_pos rfl, if_pos (by omega)]
    refine ⟨((if sN (mis z law w hd) (i + 1) < i + 1 then nI (sN (mis z law w hd) (i + 1)) else nI m, ob z w hd (i + 1), nI (i + 1)), u), ⟨rfl, u3, FrT p3 u2⟩, ?_⟩
    intro f
    dsimp only
    rw [f_C_judge_54.eq_2, if_neg (npi (by omega) hi), ixI hx (by decide), nI_clamp (by omega), rdI (by omega) (by decide), g2]
    refine (ej (fun x_26 s_27 => mb_cw (f_A_pass n (nI (hd i)) s_27) fun s_28 => if ob z w hd i = (-9) then (mb_cl (f_A_isOver n s_28) fun r_33 s_31 => if r_33 = 0 then f_C_judge_54 n _ (nI x) (nI m) f x_26 (ob z w hd i) (nI i + 1) s_31 else f_C_judge_54 n _ (nI x) (nI m) f x_26 (nI i + 1) (nI i + 1) s_31) else f_C_judge_54 n _ (nI x) (nI m) f x_26 (ob z w hd i) (nI i + 1) s_28)).trans ?_
    rw [u1, cwS2, nI_1, ob_s]
    by_cases c : ob z w hd i = -9
    · rw [if_pos c, if_pos c]
      cases ho : ovr z (hw z w hd (i + 1)) with
      | true => rw [show f_A_isOver n u = some (1, u) from qA_o1 hn u3 ho, clS, if_neg (by decide), if_pos rfl]
      | false =>
        rw [show f_A_isOver n u = some (0, u) from qA_o0 hn u3 ho, clS, if_pos rfl, c]
        rfl
    · rw [if_neg c, if_neg c]
  · rintro ⟨⟨c1, c2, c3⟩, t⟩ ⟨p1, p2, p3⟩ f
    dsimp only at p1 p2 p3
    cases p1
    dsimp only
    rw [f_C_judge_54.eq_2, if_pos npp]
theorem cs_judge (hn : 200 ≤ n) : CS (f_C_judge n X) (f_M_judge n X) := by
  intro s R
  obtain ⟨-, -, -, r4, r, z, w, law, H⟩ := id R
  have h5 := Cav5 H
  obtain ⟨p1, p2⟩ := CavP H
  rcases rngC (x := X) 6 with ⟨x, hx, rfl⟩ | hX
  · by_cases h0 : zP z = 0
    · refine ⟨-4, s, s, ?_, ?_, R⟩
      · unfold f_C_judge f_C_handingsRefusal
        rw [pC_isRow_t hx, clS, if_neg (by decide), p1, h0, if_pos (by decide), clS, if_neg (by decide)]
      · unfold f_M_judge
        rw [pM_isRow_t hx, clS, if_neg (by decide), p2, h0, if_pos (by decide)]
    · have hne : ¬ nI (zP z) = 0 := by rw [p0 h5]; exact h0
      rcases hand_c hn R H (by omega) hx with ⟨k, k1, k2, k3, k4⟩ | ⟨m, hd, D⟩
      · refine ⟨-3, fC k s, fM k (fC k s), ?_, ?_, Rel_found R⟩
        · unfold f_C_judge
          rw [k3, clS, if_neg (by decide)]
        · unfold f_M_judge
          rw [pM_isRow_t hx, clS, if_neg (by decide), show (fC k s).1 200 8 = nI (zP z) from p2, if_neg hne, k4, clS, if_neg (by decide)]
      · obtain ⟨t, t1, t2, t3, t4⟩ := q_begin hn (CavV H) H.1
        have Dt : HDs z x m hd t := HDs_fk D (Fk_of t2)
        obtain ⟨u, u1, u2⟩ := pC_jdg (k0 := fun x_36 x_37 x_38 s_39 => mb_bd (sF s_39 0 14 x_37) fun s_40 => some (x_36, s_40)) hn t3 (CavZ H) (CavW H) (by omega) (CavL H).2 (by rw [t2.1 100 2 (by decide)]; exact (CavL H).1) Dt
        have Fu : Fk cF aA s (sF u 0 14 (ob z w hd m)) := FkT (FkT (FrQ t2) (FrQ u2)) (FrQ FrF)
        have Mu := HMfk (CavM H) Fu (by decide) (by decide)
        have Du := HDs_fk D Fu
        obtain ⟨v, v1, v2, v3, v4⟩ := pM_judged hn Mu (CavZ H) (CavW H) (CavO H) (by omega) (CavL H).2 (by rw [Fu.1 200 10 (by decide)]; exact H.2.2.2.2.2.2.1 (by omega)) Du
        have Fv : Fk cmF cmA s v := FkT (FkI Fu) (FrQ v2)
        have e14 : v.1 0 14 = ob z w hd m := by rw [v2.1 0 14 (by decide)]; rfl
        refine ⟨nI (sN (mis z law w hd) m), sF u 0 14 (ob z w hd m), sF v 200 2 (v.1 0 14), ?_, ?_, Rel_qa R H Fv v3⟩
        · have ei : (if (if ovr z w = true then 1 else 0 : Int32) = 0 then (-9) else 0 : Int32) = ob z w hd 0 := by
            unfold ob
            cases ovr z w <;> rfl
          unfold f_C_judge
          rw [pC_hr_t hn p1 h5 (by omega) D, clS, if_pos rfl, t1, cwS2, rdI hx (by decide), Dt.2.2.1, qA_isOver hn t3, clS, ei, u1, bdS]
        · unfold f_M_judge
          rw [pM_isRow_t hx, clS, if_neg (by decide), Mu.2.1, if_neg hne, pM_ah_t hn Mu.2.1 h5 Du, clS, if_pos (by decide), v1, clS, v4, e14]
          rfl
  · refine ⟨-1, s, s, ?_, ?_, R⟩
    · unfold f_C_judge f_C_handingsRefusal
      rw [pC_isRow_f hX, clS, if_pos rfl, clS, if_neg (by decide)]
    · unfold f_M_judge
      rw [pM_isRow_f hX, clS, if_pos rfl]
/-- the liars are just these -/
def zs (z : zT) (v : Nat) : zT := (zP z, zK z, zG z, zL z, zS z, zB z, nI v, zE z)
def lsS (fit : Nat → Bool) : Nat → Int32 × Int32
  | 0 => (0, -9)
  | v + 1 => if fit v = true then ((lsS fit v).1 + 1, if (lsS fit v).1 = 0 then nI v else (lsS fit v).2) else lsS fit v
theorem lsS_s {fit : Nat → Bool} {i : Nat} : lsS fit (i + 1) = if fit i = true then ((lsS fit i).1 + 1, if (lsS fit i).1 = 0 then nI i else (lsS fit i).2) else lsS fit i := rfl
theorem HA_zs (H : HA z w t) : HA (zs z k) w (sF t 40 6 (nI k)) := by
  obtain ⟨g1, g2, g3, g4, g5, g6, g7, g8⟩ := H
  exact ⟨g1, g2, g3, g4, g5, g6, rfl, g8⟩
theorem HM_zs (H : HM z w (sF t 200 22 (-9))) (hk : k < 2 ^ 31) : HM (zs z k) w (sF t 200 22 (nI k)) := by
  obtain ⟨q1, q2, q3, q4, q5, q6, q7, q8, q9⟩ := H
  refine ⟨q1, q2, q3, q4, q5, q6, q7, fun x hx => ?_, q9⟩
  show bt (nI k) x = if nI k = -9 then decide (zK z x = 3) else bt (nI k) x
  rw [if_neg (nI_m9 hk)]
theorem HM_zb (H : HM (zs z k) w t) (hz : ∀ x, x < zP z → bt (zM z) x = decide (zK z x = 3)) : HM z w (sF t 200 22 (-9)) := by
  obtain ⟨q1, q2, q3, q4, q5, q6, q7, q8, q9⟩ := H
  refine ⟨q1, q2, q3, q4, q5, q6, q7, fun x hx => ?_, q9⟩
  show bt (zM z) x = if (-9 : Int32) = -9 then decide (zK z x = 3) else bt (-9) x
  rw [if_pos rfl]; exact hz x hx
theorem pM_l36 (hn : 200 ≤ n) (H : HM z w s) {k0 : Int32 → Int32 → mb_T → Option (Int32 × mb_T)} : f_M_liars_36 n k0 Y n 0 0 s = k0 (mkB (fun x => decide (zK z x = 5)) (zP z)) (nI (zP z)) s := by
  have h5 := H.1
  refine lp (F := fun f (t : Int32 × Int32 × mb_T) => f_M_liars_36 n k0 Y f t.1 t.2.1 t.2.2) (fun i => (mkB (fun x => decide (zK z x = 5)) i, nI i, s)) (zP z) ?_ ?_ n (by omega)
  · intro i hi f
    dsimp only
    rw [f_M_liars_36.eq_2, H.2.1, if_neg (npi (by omega) hi), rdI (by omega) (by decide), (H.2.2.2.2.2.2.2.2 i hi).1, nI_1, mkB_s]
    by_cases c : zK z i = 5 <;> simp [c]
  · intro f
    dsimp only
    rw [f_M_liars_36.eq_2, H.2.1, if_pos npp]
theorem cs_liars (hn : 200 ≤ n) : CS (f_C_liars n X) (f_M_liars n X) := by
  intro s R
  obtain ⟨-, -, -, r4, r, z, w, law, H⟩ := id R
  have h5 := Cav5 H
  obtain ⟨p1, p2⟩ := CavP H
  rcases rngC (x := X) 6 with ⟨x, hx, rfl⟩ | hX
  · by_cases h0 : zP z = 0
    · refine ⟨-4, s, s, ?_, ?_, R⟩
      · unfold f_C_liars f_C_handingsRefusal
        rw [pC_isRow_t hx, clS, if_neg (by decide), p1, h0, if_pos (by decide), clS, if_neg (by decide)]
      · unfold f_M_liars
        rw [pM_isRow_t hx, clS, if_neg (by decide), p2, h0, if_pos (by decide)]
    · have hne : ¬ nI (zP z) = 0 := by rw [p0 h5]; exact h0
      rcases hand_c hn R H (by omega) hx with ⟨k, k1, k2, k3, k4⟩ | ⟨m, hd, D⟩
      · refine ⟨-3, fC k s, fM k (fC k s), ?_, ?_, Rel_found R⟩
        · unfold f_C_liars
          rw [k3, clS, if_neg (by decide)]
        · unfold f_M_liars
          rw [pM_isRow_t hx, clS, if_neg (by decide), show (fC k s).1 200 8 = nI (zP z) from p2, if_neg hne, k4, clS, if_neg (by decide)]
      · obtain ⟨G, hG⟩ : ∃ G, G = mkB (fun x => decide (zK z x = 5)) (zP z) := ⟨_, rfl⟩
        obtain ⟨fit, hfit⟩ : ∃ fit : Nat → Bool, fit = fun v => decide (nI v &&& G = 0) && decide (sN (mis (zs z v) law w hd) m = m) := ⟨_, rfl⟩
        have hp2 : 2 ^ zP z ≤ 2 ^ 5 := Nat.pow_le_pow_right (by decide) h5
        have hm60 := D.2.1
        obtain ⟨l1, l2⟩ := CavL H
        have hzM : ∀ x, x < zP z → bt (zM z) x = decide (zK z x = 3) := by
          intro x hx
          have := (CavM H).2.2.2.2.2.2.2.1 x hx
          rw [H.2.2.2.2.1, if_pos rfl] at this
          exact this
        have Zs : ∀ v, zok (zs z v) := fun v => (show zok z from CavZ H)
        have LC : ∃ t, Fk bgF aA s t ∧ f_C_liars n (nI x) s = some ((lsS fit (2 ^ zP z)).1, sF t 0 14 (lsS fit (2 ^ zP z)).2) := by
          have L := lpE (F := fun f (t : (Int32 × Int32 × Int32) × mb_T) => f_C_liars_31 n (fun x_20 x_21 x_22 s_23 => mb_bd (sF s_23 0 14 x_21) fun s_24 => some (x_20, s_24)) (nI x) G f t.1.1 t.1.2.1 t.1.2.2 t.2) (R := fun t => some (t.1.1, sF t.2 0 14 t.1.2.1)) (fun v (t : (Int32 × Int32 × Int32) × mb_T) => t.1 = ((lsS fit v).1, (lsS fit v).2, nI v) ∧ Fk bgF aA s t.2) (2 ^ zP z) ?_ ?_ (t0 := ((0, -9, 0), s)) (f := n) ⟨rfl, FkR⟩ (by omega)
          · obtain ⟨⟨⟨c1, c2, c3⟩, t⟩, ⟨q1, q2⟩, q5⟩ := L
            dsimp only at q1 q2 q5
            cases q1
            refine ⟨t, q2, ?_⟩
            have eg : mkB (fun x => ofK (s.2.1 (100 + 5) x) 5) (zP z) = G := by
              rw [hG]
              exact mkB_c fun i hi => by
                rw [((CavV H).2.2.2.2.2.2 i hi).1]
                unfold ofK
                simp
            unfold f_C_liars
            rw [pC_hr_t hn p1 h5 (by omega) D, clS, if_pos rfl, p_bitsOfKind hn p1 h5, clS, eg]
            exact q5
          · rintro i hi ⟨⟨c1, c2, c3⟩, t⟩ ⟨q1, q2⟩
            dsimp only at q1 q2
            cases q1
            obtain ⟨u, u1, u2, u3, u4⟩ := q_begin hn (HVfk (CavV H) q2) H.1
            have e100 : t.1 100 0 = nI (zP z) := by rw [q2.1 100 0 (by decide)]; exact p1
            have hlt : ¬ (1 <<< (t.1 100 0 &&& 31) : Int32) ≤ nI i := by rw [e100, shl_d (zP z) (by omega)]; exact npi (by omega) hi
            by_cases c : nI i &&& G = 0
            · have Fu : Fk bgF aA s (sF u 40 6 (nI i)) := FkT (FkT q2 (FrQ u2)) (FrQ FrF)
              obtain ⟨v, v1, v2⟩ := pC_all (z := zs z i) hn (HA_zs u3) (Zs i) (show wok z w from CavW H) (show 1 ≤ zP z by omega) l2 (by rw [Fu.1 100 2 (by decide)]; exact l1) (HDs_fk (z := zs z i) D Fu)
              refine ⟨(((lsS fit (i + 1)).1, (lsS fit (i + 1)).2, nI (i + 1)), v), ⟨rfl, FkT Fu (FrQ v2)⟩, ?_⟩
              intro f
              dsimp only
              rw [f_C_liars_31.eq_2, if_neg hlt, u1, cwS2, bdS, if_pos c, v1, clS, nI_1, lsS_s]
              by_cases d : sN (mis (zs z i) law w hd) m = m
              · have hf : fit i = true := by rw [hfit]; simp [c, d]
                rw [if_pos d, if_neg (by decide), hf, if_pos rfl]
              · have hf : fit i = false := by rw [hfit]; simp [d]
                rw [if_neg d, if_pos rfl, hf, if_neg (by decide)]
            · refine ⟨(((lsS fit (i + 1)).1, (lsS fit (i + 1)).2, nI (i + 1)), sF u 40 6 (nI i)), ⟨rfl, FkT (FkT q2 (FrQ u2)) (FrQ FrF)⟩, ?_⟩
              intro f
              dsimp only
              have hf : fit i = false := by rw [hfit]; simp [c]
              rw [f_C_liars_31.eq_2, if_neg hlt, u1, cwS2, bdS, if_neg c, nI_1, lsS_s, hf, if_neg (by decide)]
          · rintro ⟨⟨c1, c2, c3⟩, t⟩ ⟨q1, q2⟩ f
            dsimp only at q1 q2
            cases q1
            have e100 : t.1 100 0 = nI (zP z) := by rw [q2.1 100 0 (by decide)]; exact p1
            dsimp only
            rw [f_C_liars_31.eq_2, e100, shl_d (zP z) (by omega), if_pos npp, bdS]
        obtain ⟨t, Ft, et⟩ := LC
        have Ft2 : Fk cF aA s (sF t 0 14 (lsS fit (2 ^ zP z)).2) := FkT (FkI Ft) (FrQ FrF)
        obtain ⟨T, hT⟩ : ∃ T, T = sF t 0 14 (lsS fit (2 ^ zP z)).2 := ⟨_, rfl⟩
        rw [← hT] at Ft2 et
        have Mt := HMfk (CavM H) Ft2 (by decide) (by decide)
        have Dt := HDs_fk D Ft2
        have t22 : T.1 200 22 = -9 := by rw [Ft2.1 200 22 (by decide)]; exact H.2.2.2.2.1
        have t10 : T.1 200 10 = law := by rw [Ft2.1 200 10 (by decide)]; exact H.2.2.2.2.2.2.1 (by omega)
        have LM : ∃ u, HM z w (sF u 200 22 (-9)) ∧ Fk [(200, 11), (200, 22), (200, 24), (200, 25), (200, 43)] [213, 228, 230] T u ∧ f_M_liars n (nI x) T = some ((lsS fit (2 ^ zP z)).1, sF (sF u 200 22 (-9)) 200 2 (lsS fit (2 ^ zP z)).2) := by
          have M0 : HM z w (sF T 200 22 (-9)) := by
            obtain ⟨g1, g2, g3, g4, g5, g6, g7, g8, g9⟩ := Mt
            refine ⟨g1, g2, g3, g4, g5, g6, g7, fun x hx => ?_, g9⟩
            show bt (zM z) x = if (-9 : Int32) = -9 then decide (zK z x = 3) else bt (-9) x
            rw [if_pos rfl]; exact hzM x hx
          have L := lpE (F := fun f (t : (Int32 × Int32 × Int32) × mb_T) => f_M_liars_83 n (fun x_36 x_37 x_38 s_39 => mb_bd (sF s_39 200 22 (-9)) fun s_40 => mb_cl (f_M_ask n x_37 x_36 s_40) fun r_44 s_42 => some (r_44, s_42)) (nI x) G f t.1.1 t.1.2.1 t.1.2.2 t.2) (R := fun t => some (t.1.1, sF (sF t.2 200 22 (-9)) 200 2 t.1.2.1)) (fun v (t : (Int32 × Int32 × Int32) × mb_T) => t.1 = ((lsS fit v).1, (lsS fit v).2, nI v) ∧ HM z w (sF t.2 200 22 (-9)) ∧ Fk [(200, 11), (200, 22), (200, 24), (200, 25), (200, 43)] [213, 228, 230] T t.2) (2 ^ zP z) ?_ ?_ (t0 := ((0, -9, 0), T)) (f := n) ⟨rfl, M0, FkR⟩ (by omega)
          · obtain ⟨⟨⟨c1, c2, c3⟩, u⟩, ⟨q1, q2, q3⟩, q5⟩ := L
            dsimp only at q1 q2 q3 q5
            cases q1
            refine ⟨u, q2, q3, ?_⟩
            unfold f_M_liars
            rw [pM_isRow_t hx, clS, if_neg (by decide), Mt.2.1, if_neg hne, pM_ah_t hn Mt.2.1 h5 Dt, clS, if_pos (by decide), pM_l36 hn Mt, ← hG]
            exact q5
          · rintro i hi ⟨⟨c1, c2, c3⟩, t⟩ ⟨q1, q2, q3⟩
            dsimp only at q1 q2 q3
            cases q1
            have e8 : t.1 200 8 = nI (zP z) := q2.2.1
            have hlt : ¬ (1 <<< (t.1 200 8 &&& 31) : Int32) ≤ nI i := by rw [e8, shl_d (zP z) (by omega)]; exact npi (by omega) hi
            by_cases c : nI i &&& G = 0
            · have Fu : Fk [(200, 11), (200, 22), (200, 24), (200, 25), (200, 43)] [213, 228, 230] T (sF t 200 22 (nI i)) := FkT q3 (FrQ FrF)
              have Di := HDs_fk (z := zs z i) Dt Fu
              obtain ⟨v, v1, v2, v3, v4⟩ := pM_judged (z := zs z i) hn (HM_zs q2 (show i < 2 ^ 31 by omega)) (Zs i) (show wok z w from CavW H) (CavO H) (show 1 ≤ zP z by omega) l2 (by rw [Fu.1 200 10 (by decide)]; exact t10) Di
              have Fv := FkT Fu (FrQ v2 (ks := [(200, 11), (200, 22), (200, 24), (200, 25), (200, 43)]) (cs := [213, 228, 230]))
              have e203 : v.2.1 203 x = nI m := by rw [Fv.2.1 203 (by decide)]; exact Dt.2.2.2.1
              refine ⟨(((lsS fit (i + 1)).1, (lsS fit (i + 1)).2, nI (i + 1)), v), ⟨rfl, HM_zb v3 hzM, Fv⟩, ?_⟩
              intro f
              dsimp only
              have hs := @sN_p (mis (zs z i) law w hd) m
              rw [f_M_liars_83.eq_2, if_neg hlt, if_pos c, bdS, v1, clS, rdI hx (by decide), e203, nI_1, lsS_s]
              simp only [nI_eq (show sN (mis (zs z i) law w hd) m < 2 ^ 31 by omega) (show m < 2 ^ 31 by omega)]
              by_cases d : sN (mis (zs z i) law w hd) m = m
              · have hf : fit i = true := by rw [hfit]; simp [c, d]
                simp [d, hf]
              · have hf : fit i = false := by rw [hfit]; simp [d]
                simp [d, hf]
            · refine ⟨(((lsS fit (i + 1)).1, (lsS fit (i + 1)).2, nI (i + 1)), t), ⟨rfl, q2, q3⟩, ?_⟩
              intro f
              dsimp only
              have hf : fit i = false := by rw [hfit]; simp [c]
              rw [f_M_liars_83.eq_2, if_neg hlt, if_neg c, nI_1, lsS_s, hf, if_neg (by decide)]
          · rintro ⟨⟨c1, c2, c3⟩, t⟩ ⟨q1, q2, q3⟩ f
            dsimp only at q1 q2 q3
            cases q1
            have e8 : t.1 200 8 = nI (zP z) := q2.2.1
            dsimp only
            rw [f_M_liars_83.eq_2, e8, shl_d (zP z) (by omega), if_pos npp, bdS]
            rfl
        obtain ⟨u, Mu, Fu, eu⟩ := LM
        have e14 : u.1 0 14 = (lsS fit (2 ^ zP z)).2 := by rw [Fu.1 0 14 (by decide), hT]; rfl
        have Fz : Fk qF qA s (sF (sF u 200 22 (-9)) 200 2 (lsS fit (2 ^ zP z)).2) := FkT (FkT (FkT (FkI Ft2) (FkI Fu)) (FrQ FrF)) (FrQ FrF)
        refine ⟨_, _, _, et, eu, Rel_q R H Fz (HMfr Mu FrF) ?_ rfl e14⟩
        show ∀ x, x < 5 → u.2.1 223 x = nI x
        rw [Fu.2.1 223 (by decide), Ft2.2.1 223 (by decide)]; exact H.2.2.2.1
  · refine ⟨-1, s, s, ?_, ?_, R⟩
    · unfold f_C_liars f_C_handingsRefusal
      rw [pC_isRow_f hX, clS, if_pos rfl, clS, if_neg (by decide)]
    · unfold f_M_liars
      rw [pM_isRow_f hX, clS, if_pos rfl]
end SB
