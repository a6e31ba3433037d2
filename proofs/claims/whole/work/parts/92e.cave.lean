/-! the pure part: a cave begun anew -/
theorem sitB_b : ∀ p, p < 6 → ∀ r : Bool, ∀ x, x < p → ∀ y, y < p → bt (sitB id p r x) y = besd p r x y := by decide +kernel
theorem fgb_n {tx : Nat → Int32} {m p a b : Nat} (h : fgb tx m (nI a) (nI b) p = true) (hb : b < 2 ^ 31) (ha : a ≤ b) : ∃ v, a ≤ v ∧ v ≤ b ∧ tx p - 48 = nI v := by
  unfold fgb at h
  simp at h
  obtain ⟨-, h1, h2⟩ := h
  have h0 : ¬ tx p - 48 < 0 := fun q => by
    have : nI a < 0 := Int32.lt_of_le_of_lt h1 q
    exact nI_pos (by omega) this
  obtain ⟨v, v1, v2⟩ := nI_of h0
  rw [v2] at h1 h2
  rw [nI_leI (by omega) v1] at h1
  rw [nI_leI v1 hb] at h2
  exact ⟨v, h1, h2, v2⟩
abbrev kpF : List (Nat × Nat) := [(140, 0), (140, 1), (140, 2), (140, 3), (140, 4), (160, 0), (160, 1), (160, 2), (160, 3), (160, 4), (180, 0), (180, 1), (180, 2), (180, 3), (180, 4)]
section VF
variable {s t u : mb_T} {n p a q m i k x y j l K d G T N : Nat} {z : zT} {w : wT} {r : Bool} {tx : Nat → Int32} {fs : List (Nat × Nat)} {as : List Nat} {v X Y lo hi law : Int32}
theorem pC_fgt (hn : 200 ≤ n) : ∃ c, f_C_forgetKept n s = some c ∧ Fk kpF [] s c ∧ ∀ k, k < 3 → c.2.2.2.2 k = false ∨ c.1 (140 + 20 * k) 0 = 0 := by
  unfold f_C_forgetKept
  have L := lpE (F := fun f (t : Int32 × mb_T) => f_C_forgetKept_2 n (fun x_6 s_7 => some s_7) f t.1 t.2) (R := fun t => some t.2) (fun i (t : Int32 × mb_T) => t.1 = nI i ∧ Fk kpF [] s t.2 ∧ ∀ k, k < i → t.2.2.2.2.2 k = false ∨ t.2.1 (140 + 20 * k) 0 = 0) 3 ?_ ?_ (t0 := (0, s)) (f := n) ⟨rfl, FkR, fun k hk => by omega⟩ (by omega)
  · obtain ⟨⟨a, t⟩, ⟨p1, p2, p3⟩, p4⟩ := L
    exact ⟨t, p4, p2, p3⟩
  · rintro i hi ⟨a, t⟩ ⟨p1, p2, p3⟩
    dsimp only at p1 p2 p3
    subst p1
    cases hb : t.2.2.2.2 i with
    | false =>
      refine ⟨(nI (i + 1), t), ⟨rfl, p2, fun k hk => ?_⟩, fun f => ?_⟩
      · by_cases c : k = i
        · rw [c]; exact Or.inl hb
        · exact p3 k (by omega)
      · dsimp only
        rw [f_C_forgetKept_2.eq_2, if_neg (show ¬ (3 : Int32) ≤ nI i from npi (p := 3) (by decide) hi), ixI hi (by decide), nI_clamp (by omega), hb, if_neg (by decide), nI_1]
    | true =>
      obtain ⟨e, he⟩ : ∃ e, e = sF (sF (sF (sF (sF t (140 + 20 * i) 0 0) (140 + 20 * i) 1 0) (140 + 20 * i) 2 0) (140 + 20 * i) 3 0) (140 + 20 * i) 4 0 := ⟨_, rfl⟩
      have Fe : Fk kpF [] t e := by
        rw [he]
        have : i = 0 ∨ i = 1 ∨ i = 2 := by omega
        rcases this with rfl | rfl | rfl <;> exact FkT (FkT (FkT (FkT (FrQ FrF) (FrQ FrF)) (FrQ FrF)) (FrQ FrF)) (FrQ FrF)
      have e0 : ∀ k, e.1 (140 + 20 * k) 0 = if k = i then 0 else t.1 (140 + 20 * k) 0 := by
        intro k
        rw [he]
        simp only [sF1]
        by_cases c : k = i
        · simp [c]
        · simp [c]
          intro h
          omega
      refine ⟨(nI (i + 1), e), ⟨rfl, FkT p2 Fe, fun k hk => ?_⟩, fun f => ?_⟩
      · dsimp only
        rw [e0, Fe.2.2]
        by_cases c : k = i
        · rw [if_pos c]; exact Or.inr rfl
        · rw [if_neg c]; exact p3 k (by omega)
      · dsimp only
        rw [f_C_forgetKept_2.eq_2, if_neg (show ¬ (3 : Int32) ≤ nI i from npi (p := 3) (by decide) hi), ixI hi (by decide), nI_clamp (by omega), hb, if_pos rfl, show f_V_clear n (140 + 20 * i) t = some e by rw [he]; rfl, cwS2, nI_1]
  · rintro ⟨a, t⟩ ⟨p1, p2, p3⟩ f
    dsimp only at p1 p2 p3
    subst p1
    dsimp only
    rw [f_C_forgetKept_2.eq_2, if_pos (show (3 : Int32) ≤ nI 3 by decide)]
theorem pM_c70 (hn : 200 ≤ n) : ∃ u, (∀ k0 : Int32 → mb_T → Option (Int32 × mb_T), f_M_cave_70 n k0 n 0 s = k0 (nI 5) u) ∧ Fr [] [212, 213, 214, 215, 216] s u ∧ ∀ e, e < 5 → u.2.1 212 e = s.2.1 212 (5 + e) ∧ u.2.1 213 e = s.2.1 213 (5 + e) ∧ u.2.1 214 e = s.2.1 214 (5 + e) ∧ u.2.1 215 e = s.2.1 215 (5 + e) ∧ u.2.1 216 e = s.2.1 216 (5 + e) := by
  have L := lpK (F := fun (k0 : Int32 → mb_T → Option (Int32 × mb_T)) f (t : Int32 × mb_T) => f_M_cave_70 n k0 f t.1 t.2) (R := fun k0 t => k0 t.1 t.2) (fun i (t : Int32 × mb_T) => t.1 = nI i ∧ Fr [] [212, 213, 214, 215, 216] s t.2 ∧ ∀ q, q ∈ [212, 213, 214, 215, 216] → ∀ e, t.2.2.1 q e = if e < i then s.2.1 q (5 + e) else s.2.1 q e) 5 ?_ ?_ (t0 := (0, s)) (f := n) ⟨rfl, FrR, fun q _ e => by rw [if_neg (by omega)]⟩ (by omega)
  · obtain ⟨⟨a, t⟩, ⟨p1, p2, p3⟩, p4⟩ := L
    dsimp only at p1 p2 p3 p4
    subst p1
    refine ⟨t, p4, p2, fun e he => ?_⟩
    rw [p3 212 (by decide), p3 213 (by decide), p3 214 (by decide), p3 215 (by decide), p3 216 (by decide), if_pos he, if_pos he, if_pos he, if_pos he, if_pos he]
    exact ⟨rfl, rfl, rfl, rfl, rfl⟩
  · rintro i hi ⟨a, t⟩ ⟨p1, p2, p3⟩
    dsimp only at p1 p2 p3
    subst p1
    have g : ∀ q, q ∈ [212, 213, 214, 215, 216] → t.2.1 q (5 + i) = s.2.1 q (5 + i) := fun q hq => by rw [p3 q hq, if_neg (by omega)]
    obtain ⟨e, he⟩ : ∃ e, e = sA (sA (sA (sA (sA t 212 i (s.2.1 212 (5 + i))) 213 i (s.2.1 213 (5 + i))) 214 i (s.2.1 214 (5 + i))) 215 i (s.2.1 215 (5 + i))) 216 i (s.2.1 216 (5 + i)) := ⟨_, rfl⟩
    have Fe : Fr [] [212, 213, 214, 215, 216] t e := by
      rw [he]
      exact FrT (FrT (FrT (FrT (FrA (q := 212)) (FrA (q := 213)) (ks := []) (cs := [212, 213])) (FrA (q := 214)) (ks := []) (cs := [212, 213, 214])) (FrA (q := 215)) (ks := []) (cs := [212, 213, 214, 215])) (FrA (q := 216))
    have ge : ∀ q, q ∈ [212, 213, 214, 215, 216] → e.2.1 q = upd (t.2.1 q) i (s.2.1 q (5 + i)) := by
      intro q hq
      rw [he]
      simp only [List.mem_cons, List.not_mem_nil, or_false] at hq
      rcases hq with rfl | rfl | rfl | rfl | rfl <;> rfl
    refine ⟨(nI (i + 1), e), ⟨rfl, FrT p2 Fe, fun q hq x => ?_⟩, fun c f => ?_⟩
    · dsimp only
      rw [ge q hq, updI, p3 q hq]
      by_cases c : x = i
      · rw [if_pos c, if_pos (by omega), c]
      · rw [if_neg c]
        by_cases d : x < i
        · rw [if_pos d, if_pos (by omega)]
        · rw [if_neg d, if_neg (by omega)]
    · dsimp only
      have h5 : (5 : Int32) + nI i = nI (5 + i) := nI_add 5 i
      have g1 : t.2.1 212 (5 + i) = s.2.1 212 (5 + i) := g 212 (by decide)
      have g2 : (sA t 212 i (s.2.1 212 (5 + i))).2.1 213 (5 + i) = s.2.1 213 (5 + i) := g 213 (by decide)
      have g3 : (sA (sA t 212 i (s.2.1 212 (5 + i))) 213 i (s.2.1 213 (5 + i))).2.1 214 (5 + i) = s.2.1 214 (5 + i) := g 214 (by decide)
      have g4 : (sA (sA (sA t 212 i (s.2.1 212 (5 + i))) 213 i (s.2.1 213 (5 + i))) 214 i (s.2.1 214 (5 + i))).2.1 215 (5 + i) = s.2.1 215 (5 + i) := g 215 (by decide)
      have g5 : (sA (sA (sA (sA t 212 i (s.2.1 212 (5 + i))) 213 i (s.2.1 213 (5 + i))) 214 i (s.2.1 214 (5 + i))) 215 i (s.2.1 215 (5 + i))).2.1 216 (5 + i) = s.2.1 216 (5 + i) := g 216 (by decide)
      rw [f_M_cave_70.eq_2, if_neg (show ¬ (5 : Int32) ≤ nI i from npi (p := 5) (by decide) hi), h5, rdI (by omega) (by decide), g1, wrI (by omega) (by decide), rdI (by omega) (by decide), g2, wrI (by omega) (by decide), rdI (by omega) (by decide), g3, wrI (by omega) (by decide), rdI (by omega) (by decide), g4, wrI (by omega) (by decide), rdI (by omega) (by decide), g5, wrI (by omega) (by decide), nI_1, he]
  · rintro ⟨a, t⟩ ⟨p1, p2, p3⟩ c f
    dsimp only at p1 p2 p3
    subst p1
    dsimp only
    rw [f_M_cave_70.eq_2, if_pos (show (5 : Int32) ≤ nI 5 by decide)]
theorem pM_c164 (hn : 200 ≤ n) {k0 : Int32 → mb_T → Option (Int32 × mb_T)} : ∃ u, f_M_cave_164 n k0 n 0 s = k0 (nI 3) u ∧ Fr [] [229] s u ∧ ∀ k, k < 3 → u.2.1 229 (850 * k) = -9 := by
  have L := lpE (F := fun f (t : Int32 × mb_T) => f_M_cave_164 n k0 f t.1 t.2) (R := fun t => k0 t.1 t.2) (fun i (t : Int32 × mb_T) => t.1 = nI i ∧ Fr [] [229] s t.2 ∧ ∀ k, k < i → t.2.2.1 229 (850 * k) = -9) 3 ?_ ?_ (t0 := (0, s)) (f := n) ⟨rfl, FrR, fun k hk => by omega⟩ (by omega)
  · obtain ⟨⟨a, t⟩, ⟨p1, p2, p3⟩, p4⟩ := L
    dsimp only at p1 p2 p3 p4
    subst p1
    exact ⟨t, p4, p2, p3⟩
  · rintro i hi ⟨a, t⟩ ⟨p1, p2, p3⟩
    dsimp only at p1 p2 p3
    subst p1
    refine ⟨(nI (i + 1), sA t 229 (850 * i) (-9)), ⟨rfl, FrT p2 FrA, fun k hk => ?_⟩, fun f => ?_⟩
    · show upd (t.2.1 229) (850 * i) (-9) (850 * k) = -9
      rw [updI]
      by_cases c : k = i
      · rw [if_pos (by rw [c])]
      · rw [if_neg (by omega)]; exact p3 k (by omega)
    · dsimp only
      rw [f_M_cave_164.eq_2, if_neg (show ¬ (3 : Int32) ≤ nI i from npi (p := 3) (by decide) hi), nI_850, wrI (by omega) (by decide), nI_1]
  · rintro ⟨a, t⟩ ⟨p1, p2, p3⟩ f
    dsimp only at p1 p2 p3
    subst p1
    dsimp only
    rw [f_M_cave_164.eq_2, if_pos (show (3 : Int32) ≤ nI 3 by decide)]
theorem cs_cave (hn : 200 ≤ n) : CS (f_C_cave n X) (f_M_cave n X) := by
  intro s R
  obtain ⟨-, -, -, r4, r, z, w, law, H⟩ := id R
  rcases rngC (x := X) 4 with ⟨x, hx, rfl⟩ | hX
  · rcases R.2.1 x hx with ⟨m, m1, m2, m3, m4⟩ | ⟨m1, m2⟩
    · obtain ⟨tx, htx⟩ : ∃ tx, tx = s.2.1 (30 + x) := ⟨_, rfl⟩
      obtain ⟨p, hp⟩ : ∃ p, p = sb tx m 0 := ⟨_, rfl⟩
      obtain ⟨u, u1, u2, u3⟩ := pR_read (n := n) (s := s) (tx := tx) hn hx m1 (fun i _ => by rw [htx]) hp
      have EC : f_C_cave n (nI x) s = if FR tx m p = (-9) then (mb_cw (f_V_become n 100 120 u) fun s_13 => mb_cw (f_C_forgetKept n s_13) fun s_15 => some ((s_15.1 100 0), s_15)) else some ((-4), u) := by
        unfold f_C_cave
        rw [pC_txtR_t hx m2 m1, clS, if_pos rfl, ixI hx (by decide), rdI hx (by decide), m2, nI_clamp (by omega), u1, clS]
      by_cases hF : FR tx m p = -9
      · -- a cave
        obtain ⟨c, c1, c2, c3⟩ := pC_fgt (s := bec 100 120 u) hn
        have Fb : Fk [(100, 0), (100, 1), (100, 2), (100, 3), (100, 4)] [105, 106, 107, 108, 109, 110, 111, 112] u (bec 100 120 u) := bec_fk
        obtain ⟨d0, d4, d00, d1, dD⟩ := u3 hF
        obtain ⟨N, hN⟩ : ∃ N, N = nP tx m p := ⟨_, rfl⟩
        obtain ⟨n5, ng, nb⟩ := nP_p (tx := tx) (m := m) (p := p)
        rw [← hN] at d0 d00 d1 dD n5 ng nb
        have cF : ∀ e, e < 5 → c.1 100 e = u.1 120 e := fun e he => by
          rw [c2.1 100 e (by simp), bec_F he]
        have cA : ∀ q, 5 ≤ q ∧ q < 10 → ∀ e, e < 5 → c.2.1 (100 + q) e = u.2.1 (120 + q) e := fun q hq e he => by
          rw [c2.2.1 (100 + q) (by simp), bec_5 hq he]
        have Fsc : Fk [(36, 1), (36, 2), (36, 3), (100, 0), (100, 1), (100, 2), (100, 3), (100, 4), (120, 0), (120, 1), (120, 2), (120, 3), (120, 4), (140, 0), (140, 1), (140, 2), (140, 3), (140, 4), (160, 0), (160, 1), (160, 2), (160, 3), (160, 4), (180, 0), (180, 1), (180, 2), (180, 3), (180, 4)] [105, 106, 107, 108, 109, 110, 111, 112, 125, 126, 127, 128, 129] s c := FkT (FkT (FkI u2) (FkI Fb)) (FkI c2)
        have MTc : MT x m tx c := ⟨by rw [Fsc.2.1 206 (by decide)]; exact m3, fun i hi => by rw [Fsc.2.1 207 (by decide), htx, m4 i hi]⟩
        obtain ⟨v, v1, v2, v3, v4⟩ := pM_goes hn hx m1 MTc hp
        obtain ⟨g0, g1, g2, g3, gD⟩ := v4 hF
        rw [← hN] at g0 gD
        obtain ⟨e, he⟩ : ∃ e, e = sF (sF (sF (sF v 200 8 (nI N)) 200 9 (if tx (p + 1) = 111 then 1 else 0)) 200 10 (tx (p + 2) - 48)) 200 11 (if nI N = 0 then 0 else 10 * (tx (p + 3) - 48)) := ⟨_, rfl⟩
        have Fe : Fr [(200, 8), (200, 9), (200, 10), (200, 11)] [] v e := by
          rw [he]
          exact FrT (FrT (FrT (FrF (i := 200) (k := 8)) (FrF (i := 200) (k := 9)) (ks := [(200, 8), (200, 9)]) (cs := [])) (FrF (i := 200) (k := 10)) (ks := [(200, 8), (200, 9), (200, 10)]) (cs := [])) (FrF (i := 200) (k := 11))
        obtain ⟨f, f1, f2, f3⟩ := pM_c70 (s := e) hn
        obtain ⟨g, hg⟩ : ∃ g, g = sF (sF f 200 24 0) 200 25 (-9) := ⟨_, rfl⟩
        have Fg : Fr [(200, 24), (200, 25)] [] f g := by
          rw [hg]
          exact FrT (FrF (i := 200) (k := 24)) (FrF (i := 200) (k := 25))
        obtain ⟨o, o1, o2, o3⟩ := pM_c164 (s := g) (k0 := fun x_60 s_61 => some ((s_61.1 200 8), s_61)) hn
        have Fvo : Fr [(200, 8), (200, 9), (200, 10), (200, 11), (200, 24), (200, 25)] [212, 213, 214, 215, 216, 229] v o := FrT (FrT (FrT Fe f2 (ks := [(200, 8), (200, 9), (200, 10), (200, 11)]) (cs := [212, 213, 214, 215, 216])) Fg (ks := [(200, 8), (200, 9), (200, 10), (200, 11), (200, 24), (200, 25)]) (cs := [212, 213, 214, 215, 216])) o2
        have Fco : Fk [(200, 8), (200, 9), (200, 10), (200, 11), (200, 17), (200, 18), (200, 19), (200, 20), (200, 21), (200, 24), (200, 25)] [212, 213, 214, 215, 216, 229] c o := FkT (FrQ v2) (FrQ Fvo)
        have oe : ∀ k ∈ [8, 9, 10, 11], o.1 200 k = e.1 200 k := fun k hk => by
          rw [o2.1 200 k (by simp), Fg.1 200 k (by revert hk; revert k; decide), f2.1 200 k (by simp)]
        have o8 : o.1 200 8 = nI N := by rw [oe 8 (by decide), he]; rfl
        have o9 : o.1 200 9 = (if tx (p + 1) = 111 then 1 else 0) := by rw [oe 9 (by decide), he]; rfl
        have o10 : o.1 200 10 = tx (p + 2) - 48 := by rw [oe 10 (by decide), he]; rfl
        have o11 : o.1 200 11 = (if nI N = 0 then 0 else 10 * (tx (p + 3) - 48)) := by rw [oe 11 (by decide), he]; rfl
        have o24 : o.1 200 24 = 0 := by rw [o2.1 200 24 (by decide), hg]; rfl
        have o25 : o.1 200 25 = -9 := by rw [o2.1 200 25 (by decide), hg]; rfl
        have oA : ∀ i, i < N → pD tx (QL tx m p i) i (o.2.1 212) (o.2.1 213) (o.2.1 214) (o.2.1 215) (o.2.1 216) := fun i hi => by
          obtain ⟨a1, a2, a3, a4, a5⟩ := f3 i (by omega)
          obtain ⟨b1, b2, b3, b4, b5⟩ := gD i hi
          have q : ∀ q, q ≠ 229 → o.2.1 q = f.2.1 q := fun q hq => by rw [o2.2.1 q (by simpa using hq), Fg.2.1 q (by simp)]
          have qe : ∀ q, e.2.1 q = v.2.1 q := fun q => Fe.2.1 q (by simp)
          refine ⟨?_, ?_, ?_, ?_, ?_⟩
          · rw [q 212 (by decide), a1, qe, b1]
          · rw [q 213 (by decide), a2, qe, b2]
          · rw [q 214 (by decide), a3, qe, b3]
          · rw [q 215 (by decide), a4, qe, b4]
          · rw [q 216 (by decide), a5, qe, b5]
        -- the figures
        have hk : sN (fun j => !hb tx m p j) 4 = 4 := by
          by_cases hk : sN (fun j => !hb tx m p j) 4 = 4
          · exact hk
          · exfalso
            have hpm : p ≤ m := by rw [hp]; exact (sb_p (Nat.zero_le m)).2.1
            have hle := cjh_le (tx := tx) (p := p) (k := 4) hpm (by omega)
            unfold FR at hF
            rw [if_neg hk] at hF
            exact nI_m9 (by omega) hF
        have hk2 : fgb tx m 0 3 (p + 2) = true := by have := sN_al hk 2 (by omega); simpa [hb] using this
        obtain ⟨L, -, hL2, hL3⟩ : ∃ L, 0 ≤ L ∧ L ≤ 3 ∧ tx (p + 2) - 48 = nI L := fgb_n (m := m) (a := 0) (b := 3) hk2 (by decide) (by decide)
        have fig : ∀ i, i < N → (∃ a, a ≤ 9 ∧ tx (QL tx m p i + 1) - 48 = nI a) ∧ ∃ a, 1 ≤ a ∧ a ≤ 9 ∧ tx (QL tx m p i + 4) - 48 = nI a := fun i hi => by
          have h5 := (gd_t (ng i hi)).2.1
          have q1 : fgb tx m 0 9 (QL tx m p i + 1) = true := by have := sN_al h5 1 (by omega); simpa [pb] using this
          have q4 : fgb tx m 1 9 (QL tx m p i + 4) = true := by have := sN_al h5 4 (by omega); simpa [pb] using this
          obtain ⟨a, a1, a2, a3⟩ := fgb_n (tx := tx) (m := m) (p := QL tx m p i + 1) (a := 0) (b := 9) q1 (by decide) (by decide)
          obtain ⟨b, b1, b2, b3⟩ := fgb_n (tx := tx) (m := m) (p := QL tx m p i + 4) (a := 1) (b := 9) q4 (by decide) (by decide)
          exact ⟨⟨a, a2, a3⟩, b, b1, b2, b3⟩
        obtain ⟨rr, hrr⟩ : ∃ rr : Bool, rr = (decide (tx (p + 1) = 111) && decide (1 ≤ N)) := ⟨_, rfl⟩
        obtain ⟨z', hz'⟩ : ∃ z' : zT, z' = (N, fun i => kdO (tx (QL tx m p i)), fun i => tx (QL tx m p i + 2) - 48, fun i => tx (QL tx m p i + 3) - 48, fun i => 5 * (tx (QL tx m p i + 4) - 48), sitB id N rr, mkB (fun i => ofK (kdO (tx (QL tx m p i))) 3) N, 0) := ⟨_, rfl⟩
        obtain ⟨oil, hoil⟩ : ∃ oil : Int32, oil = if N = 0 then 0 else 10 * (tx (p + 3) - 48) := ⟨_, rfl⟩
        obtain ⟨w', hw'⟩ : ∃ w' : wT, w' = (fun i => tx (QL tx m p i + 1) - 48, oil, 0, none) := ⟨_, rfl⟩
        obtain ⟨lw, hlw⟩ : ∃ lw : Int32, lw = if N = 0 then 0 else tx (p + 2) - 48 := ⟨_, rfl⟩
        have zP' : zP z' = N := by rw [hz']; rfl
        have F9 : Fk [(36, 1), (36, 2), (36, 3), (100, 0), (100, 1), (100, 2), (100, 3), (100, 4), (120, 0), (120, 1), (120, 2), (120, 3), (120, 4), (140, 0), (140, 1), (140, 2), (140, 3), (140, 4), (160, 0), (160, 1), (160, 2), (160, 3), (160, 4), (180, 0), (180, 1), (180, 2), (180, 3), (180, 4), (200, 8), (200, 9), (200, 10), (200, 11), (200, 17), (200, 18), (200, 19), (200, 20), (200, 21), (200, 24), (200, 25)] [105, 106, 107, 108, 109, 110, 111, 112, 125, 126, 127, 128, 129, 212, 213, 214, 215, 216, 229] s o := FkT (FkI Fsc) (FkI Fco)
        have p223 : ∀ e, e < 5 → o.2.1 223 e = nI e := by rw [F9.2.1 223 (by decide)]; exact H.2.2.2.1
        have q22 : o.1 200 22 = -9 := by rw [F9.1 200 22 (by decide)]; exact H.2.2.2.2.1
        have n0 : (nI N = 0) = (N = 0) := p0 n5
        have d4' : c.1 100 4 = 0 := by rw [cF 4 (by decide)]; exact d4
        have cfo : ∀ e, e < 5 → o.1 100 e = u.1 120 e := fun e he => by rw [Fco.1 100 e (by simp)]; exact cF e he
        have cao : ∀ q, 5 ≤ q ∧ q < 10 → ∀ e, e < 5 → o.2.1 (100 + q) e = u.2.1 (120 + q) e := fun q hq e he => by rw [Fco.2.1 (100 + q) (by simp; omega)]; exact cA q hq e he
        refine ⟨nI N, c, o, ?_, ?_, Rel_o R F9 (by rw [F9.1 0 14 (by decide), F9.1 200 2 (by decide)]; exact r4) (r := rr) (z := z') (w := w') (law := lw) ⟨?_, ?_, ?_, p223, q22, ?_, ?_, ?_, ?_, ?_⟩⟩
        · rw [EC, if_pos hF, p_bec3, cwS2, c1, cwS2, cF 0 (by decide), d0]
        · unfold f_M_cave
          rw [pM_txtR_t hx MTc.1 m1, clS, if_pos (by decide), v1, clS, if_pos hF, bdS, g0]
          rw [show (sF v 200 8 (nI N)).1 200 19 = (if tx (p + 1) = 111 then 1 else 0) from g1, bdS]
          rw [show (sF (sF v 200 8 (nI N)) 200 9 (if tx (p + 1) = 111 then 1 else 0)).1 200 20 = tx (p + 2) - 48 from g2, bdS]
          rw [show (sF (sF (sF v 200 8 (nI N)) 200 9 (if tx (p + 1) = 111 then 1 else 0)) 200 10 (tx (p + 2) - 48)).1 200 8 = nI N from rfl, show (sF (sF (sF v 200 8 (nI N)) 200 9 (if tx (p + 1) = 111 then 1 else 0)) 200 10 (tx (p + 2) - 48)).1 200 21 = 10 * (tx (p + 3) - 48) from g3, bdS, ← he, f1, bdS, bdS, ← hg, o1, o8]
        · exact ⟨by rw [hz']; rfl, by rw [hz']; rfl, by rw [hz']; rfl⟩
        · intro i hi
          rw [zP'] at hi
          obtain ⟨-, a, a1, a2, a3⟩ := fig i hi
          refine ⟨5 * a, by omega, by omega, ?_⟩
          rw [hz']
          show 5 * (tx (QL tx m p i + 4) - 48) = nI (5 * a)
          rw [a3]; exact nI_mul 5 a
        · refine ⟨by rw [zP']; exact n5, by rw [zP']; exact o8, ?_, by rw [hw']; exact o24, by rw [hw']; exact o25, by rw [hz']; rfl, ⟨id, rr, fun e he => ?_, fun h1 => ?_, fun e f he hf => ?_⟩, fun e he => ?_, fun e he => ?_⟩
          · rw [hw', o11, hoil]
            simp only [n0]
          · rw [zP'] at he
            exact ⟨p223 e (by omega), by show e < 5; omega⟩
          · rw [zP'] at h1
            rw [o9, hrr]
            simp [h1]
          · rw [zP'] at he hf ⊢
            rw [hz']
            exact sitB_b N (by omega) rr e he f hf
          · rw [zP'] at he
            rw [q22, if_pos rfl, hz']
            show bt (mkB (fun i => ofK (kdO (tx (QL tx m p i))) 3) N) e = decide (kdO (tx (QL tx m p e)) = 3)
            obtain ⟨k, k1, k2, k3⟩ := @mkB_k (fun i => ofK (kdO (tx (QL tx m p i))) 3) N n5
            rw [k2, k3 e he]
            unfold ofK
            simp
          · rw [zP'] at he
            obtain ⟨b1, b2, b3, b4, b5⟩ := oA e he
            rw [hz', hw']
            exact ⟨b1, b2, b3, b4, b5⟩
        · refine ⟨⟨by rw [zP']; exact n5, by rw [zP', cfo 0 (by decide)]; exact d0, ?_, ?_, ?_, ⟨0, by omega, by rw [hw']; rfl, fun _ => by rw [hw'], fun q => by omega⟩, fun e he => ?_⟩, ⟨fun e he => ?_, fun g hg => by rw [hw'] at hg; cases hg⟩, ?_, ?_, fun mi m1 m2 => ?_⟩
          · rw [cfo 1 (by decide), hrr]
            by_cases h0 : N = 0
            · rw [(d00 h0).1]; simp [h0]
            · rw [(d1 (by omega)).1]
              have : 1 ≤ N := by omega
              simp [this]
          · rw [cfo 3 (by decide), hw', hoil]
            by_cases h0 : N = 0
            · rw [(d00 h0).2.2, if_pos h0]
            · rw [(d1 (by omega)).2.2, if_neg h0]
          · rw [cfo 4 (by decide), hw']; exact d4
          · rw [zP'] at he
            obtain ⟨b1, b2, b3, b4, b5⟩ := dD e he
            rw [cao 5 (by omega) e (by omega), cao 6 (by omega) e (by omega), cao 7 (by omega) e (by omega), cao 8 (by omega) e (by omega), cao 9 (by omega) e (by omega), hz', hw']
            exact ⟨b1, b2, b3, b4, b5⟩
          · rw [zP'] at he
            obtain ⟨⟨a, a1, a2⟩, -⟩ := fig e he
            rw [hw']
            exact ⟨a, by omega, a2⟩
          · rw [cfo 2 (by decide), hlw]
            by_cases h0 : N = 0
            · rw [(d00 h0).2.1, if_pos h0]
            · rw [(d1 (by omega)).2.1, if_neg h0]
          · rw [hlw]
            by_cases h0 : N = 0
            · rw [if_pos h0]; exact lawok_n (x := 0) (by omega)
            · rw [if_neg h0, hL3]; exact lawok_n (by omega)
          · rw [hw'] at m2
            have m2 : (0 : Int32) = nI mi := m2
            rw [show (0 : Int32) = nI 0 from rfl, nI_eq (by decide) (by omega)] at m2
            subst m2
            intro e he
            omega
        · intro h1
          rw [zP'] at h1
          rw [o10, hlw, if_neg (by omega)]
        · intro h0
          rw [zP'] at h0
          refine ⟨by rw [hrr, h0]; simp, by rw [hlw, if_pos h0], by rw [hw', hoil, if_pos h0], by rw [hw']⟩
        · intro k hk
          left
          refine ⟨?_, o3 k hk⟩
          rw [Fco.2.2, Fco.1 (140 + 20 * k) 0 (by simp)]
          exact c3 k hk
        · intro h1
          rw [zP'] at h1
          rw [o9, hrr]
          simp [h1]
      · have MTu : MT x m tx u := ⟨by rw [u2.2.1 206 (by decide)]; exact m3, fun i hi => by rw [u2.2.1 207 (by decide), htx, m4 i hi]⟩
        obtain ⟨v, v1, v2, v3, v4⟩ := pM_goes hn hx m1 MTu hp
        have Fv : Fk qF qA3 s v := FkT (FkI u2) (FrQ v2)
        have Mv : HM z w v := HM5 (HMfk (CavM H) u2 (by decide) (by decide)) v2 v3
        refine ⟨-4, u, v, ?_, ?_, ?_⟩
        · rw [EC, if_neg hF]
        · unfold f_M_cave
          rw [pM_txtR_t hx MTu.1 m1, clS, if_pos (by decide), v1, clS, if_neg hF]
        · refine ⟨Rows_fr R.1 Fv, Txts_fr R.2.1 Fv, Fnd_fr R.2.2.1 Fv, ?_, r, z, w, law, Cav_q3 H Fv Mv ?_ ?_⟩
          · rw [v2.1 0 14 (by decide), v2.1 200 2 (by decide), u2.1 0 14 (by decide), u2.1 200 2 (by decide)]; exact r4
          · rw [v2.2.1 223 (by decide), u2.2.1 223 (by decide)]; exact H.2.2.2.1
          · rw [v2.1 200 22 (by decide), u2.1 200 22 (by decide)]; exact H.2.2.2.2.1
    · refine ⟨-3, fC 1 s, fM 1 (fC 1 s), ?_, ?_, Rel_found R⟩
      · unfold f_C_cave
        rw [pC_txtR_m hx m1, clS, if_neg (by decide)]
      · unfold f_M_cave
        rw [pM_txtR_m (s := fC 1 s) hx m2, clS, if_neg (by decide)]
  · refine ⟨-1, s, s, ?_, ?_, R⟩
    · unfold f_C_cave
      rw [pC_txtR_f hX, clS, if_neg (by decide)]
    · unfold f_M_cave
      rw [pM_txtR_f hX, clS, if_neg (by decide)]
end VF
