/-! the pure part: rows filled; handings told; marks -/
abbrev qA2 : List Nat := [1, 10, 11, 20, 21, 22, 23, 24, 25, 47, 48, 49, 50, 51, 52, 53, 54, 55, 56, 61, 64, 125, 126, 127, 128, 129, 203, 204, 205, 213, 214, 223, 228, 230, 232, 234, 235, 236, 239, 240]
theorem sitB_w : ∀ p, p < 6 → ∀ r : Bool, ∀ x, x < p → ∃ m, m < 2 ^ p ∧ sitB id p r x = nI m := by decide +kernel
section RN
variable {s t u : mb_T} {n p a b q m i c c1 k x y j l h K mi na : Nat} {v : Int32} {z : zT} {w w2 : wT} {r : Bool} {law law2 X Y V U T : Int32} {fs gs ks : List (Nat × Nat)} {as bs cs : List Nat} {hM nM hM2 nM2 : Nat → Int32} {W : Nat → wT} {hd : Nat → Nat}
theorem Cav_q2 (H : Cav r z w law s) (h : Fk qF qA2 s t) (H2 : HM z w t) (h3 : ∀ x, x < 5 → t.2.1 223 x = nI x) (h4 : t.1 200 22 = -9) : Cav r z w law t := by
  obtain ⟨a1, a2, a3, a4, a5, a6, a7, a8, a9, a10⟩ := H
  refine ⟨a1, a2, H2, h3, h4, ?_, ?_, a8, ?_, by rw [h.1 200 9 (by decide)]; exact a10⟩
  · have := CVv_fr a6 h (by decide) (by decide)
    rw [h.2.1 226 (by decide), h.2.1 227 (by decide)]
    exact this
  · rw [h.1 200 10 (by decide)]; exact a7
  · intro k hk
    refine Kp_fr (a9 k hk) h ?_ ?_ (by decide)
    · have : k = 0 ∨ k = 1 ∨ k = 2 := by omega
      rcases this with rfl | rfl | rfl <;> decide
    · have : k = 0 ∨ k = 1 ∨ k = 2 := by omega
      rcases this with rfl | rfl | rfl <;> decide
theorem rowC_fk (hx : x < 6) : Fk [] [1, 20, 21, 22, 23, 24, 25] s (rowC x m hM s) := by
  refine FrQ rowC_fr (by decide) ?_
  have : x = 0 ∨ x = 1 ∨ x = 2 ∨ x = 3 ∨ x = 4 ∨ x = 5 := by omega
  rcases this with rfl | rfl | rfl | rfl | rfl | rfl <;> decide
theorem Rel_fill (R : Rel s) (H : Cav r z w law s) (F1 : Fk qF qA s t) (hx : x < 6) (hm : m ≤ 60) (F2 : Fk qF qA (rowC x m hM t) u) (Mu : HM z w u) (h3 : ∀ x, x < 5 → u.2.1 223 x = nI x) (h4 : u.1 200 22 = -9) (ha : u.1 0 14 = u.1 200 2) (e : ∀ i, i < m → hM i = nM (60 * x + i)) (e2 : ∀ j, j < 60 * x ∨ 60 * x + 60 ≤ j → nM j = u.2.1 204 j) : Rel (rowM x m nM u) := by
  have F : Fk qF qA2 s (rowM x m nM u) := FkT (FkT (FkT (FkI F1) (FkI (rowC_fk hx))) (FkI F2)) (FrQ rowM_fr)
  obtain ⟨r1, r2, r3, r4, -⟩ := R
  refine ⟨?_, Txts_fr r2 F, Fnd_fr r3 F, ha, r, z, w, law, Cav_q2 H F (HMfr Mu rowM_fr) ?_ ?_⟩
  · refine Rows_set (x := x) (s := s) r1 hx ?_ (Or.inl ⟨m, hm, ?_, ?_, ?_⟩)
    · intro r hr hne
      refine ⟨?_, ?_, ?_, ?_⟩
      · rw [rowM_fr.2.1 1 (by decide), F2.2.1 1 (by decide)]
        unfold rowC
        rw [sA2, if_pos rfl, updI, if_neg hne, sV2, if_neg (by omega), F1.2.1 1 (by decide)]
      · unfold rowM
        rw [sV2, if_neg (by decide), sA2, if_pos rfl, updI, if_neg hne, F2.2.1 203 (by decide), rowC_q hx (by decide), F1.2.1 203 (by decide)]
      · have : r = 0 ∨ r = 1 ∨ r = 2 ∨ r = 3 ∨ r = 4 ∨ r = 5 := by omega
        rw [rowM_fr.2.1 (20 + r) (by simp; omega), F2.2.1 (20 + r) (by rcases this with rfl | rfl | rfl | rfl | rfl | rfl <;> decide)]
        unfold rowC
        rw [sA2, if_neg (by omega), sV2, if_neg (by omega), F1.2.1 (20 + r) (by rcases this with rfl | rfl | rfl | rfl | rfl | rfl <;> decide)]
      · intro i hi
        show nM (60 * r + i) = _
        rw [e2 _ (by rcases Nat.lt_or_gt_of_ne hne with l | l <;> omega), F2.2.1 204 (by decide), rowC_q hx (by decide), F1.2.1 204 (by decide)]
    · rw [rowM_fr.2.1 1 (by decide), F2.2.1 1 (by decide)]
      unfold rowC
      rw [sA2, if_pos rfl, updI, if_pos rfl]
    · unfold rowM
      rw [sV2, if_neg (by decide), sA2, if_pos rfl, updI, if_pos rfl]
    · intro i hi
      have : x = 0 ∨ x = 1 ∨ x = 2 ∨ x = 3 ∨ x = 4 ∨ x = 5 := by omega
      rw [rowM_fr.2.1 (20 + x) (by simp; omega), F2.2.1 (20 + x) (by rcases this with rfl | rfl | rfl | rfl | rfl | rfl <;> decide)]
      show (rowC x m hM t).2.1 (20 + x) i = nM (60 * x + i)
      unfold rowC
      rw [sA2, if_neg (by omega), sV2, if_pos rfl]
      exact e i hi
  · show ∀ x, x < 5 → u.2.1 223 x = nI x
    exact h3
  · exact h4
theorem pC_fill (hx : x < 6) (hm : m ≤ 60) (h2 : m ≤ na) (hna : na < 2 ^ 31) : f_C_fillRow n (nI x) a na (nI m) s = some (rowC x m (va_cpy (s.2.1 a) (s.2.1 (20 + x)) 0 0 m) s) := by
  have e1 : (if nI m < 0 then 0 else nI m : Int32) = nI m := if_neg (nI_pos (by omega))
  have e2 : (if (if 60 < (Int32.ofNat na) then 60 else (Int32.ofNat na) : Int32) < nI m then (if 60 < (Int32.ofNat na) then 60 else (Int32.ofNat na) : Int32) else nI m : Int32) = nI m := by
    by_cases c : 60 < (Int32.ofNat na)
    · rw [if_pos c, if_neg (show ¬ (60 : Int32) < nI m from nI_nlt (a := 60) hm (by decide))]
    · rw [if_neg c]
      exact if_neg (show ¬ nI na < nI m from nI_nlt h2 hna)
  unfold f_C_fillRow
  rw [e1, e2, ixI hx (by decide), nI_clamp (by omega)]
  have e := cpI (s := s) (sp := 0) (dp := 0) (m := m) (n0 := na) (n1 := 60) (a0 := a) (a1 := 20 + x) (k := fun s_2 => mb_wr s_2 1 6 (nI x) (nI m) fun s_5 => some s_5) (by omega) (by omega) hna (by decide)
  rw [wrI hx (by decide)] at e
  exact e
theorem pM_t98 (hn : 200 ≤ n) (hx : x < 6) (hm : m ≤ 60) {k0 : Int32 → mb_T → Option (Int32 × mb_T)} : f_M_tell_98 n k0 (nI x) (nI m) n 0 s = k0 (nI m) (sV s 204 (va_cpy (s.2.1 205) (s.2.1 204) 0 (60 * x) m)) := by
  have e := lp (F := fun f (t : Int32 × mb_T) => f_M_tell_98 n k0 (nI x) (nI m) f t.1 t.2) (R := k0 (nI m) (sV s 204 (va_cpy (s.2.1 205) (s.2.1 204) 0 (60 * x) m))) (fun i => (nI i, sV s 204 (va_cpy (s.2.1 205) (s.2.1 204) 0 (60 * x) i))) m ?_ ?_ n (by omega)
  · dsimp only at e
    rw [cpy_0, sVid] at e
    exact e
  · intro i hi f
    dsimp only
    have g : (sV s 204 (va_cpy (s.2.1 205) (s.2.1 204) 0 (60 * x) i)).2.1 205 i = s.2.1 205 (0 + i) := by rw [sV2, if_neg (by decide), show 0 + i = i by omega]
    rw [f_M_tell_98.eq_2, if_neg (npi (by omega) hi), rdI (by omega) (by decide), pM_setRow hx (by omega), cwS2, g, sAV, nI_1, cpy_s]
  · intro f
    dsimp only
    rw [f_M_tell_98.eq_2, if_pos npp]
theorem pM_t42 (hn : 200 ≤ n) (H : HM z w s) (Z : zok z) (W0 : wok z w) (M : mo2 w) (h1 : 1 ≤ zP z) (hl : lawok law) (hm : m ≤ 60) {k0 : Int32 → mb_T → Option (Int32 × mb_T)} (hK : K = sN (fun k => ovr z (wi z law w k)) m) : ∃ t, f_M_tell_42 n k0 law (nI m) Y n 0 s = k0 (nI K) t ∧ Fr [(200, 11), (200, 24), (200, 25)] [205, 213, 228] s t ∧ HM z (wi z law w K) t ∧ ∀ j, j < K → t.2.1 205 j = nI (nxt z law (wi z law w j)) := by
  obtain ⟨q1, q2, q3⟩ := @sN_p (fun k => ovr z (wi z law w k)) m
  rw [← hK] at q1 q2 q3
  have L := lpE (F := fun f (t : Int32 × mb_T) => f_M_tell_42 n k0 law (nI m) Y f t.1 t.2) (R := fun t => k0 t.1 t.2) (fun k (t : Int32 × mb_T) => t.1 = nI k ∧ HM z (wi z law w k) t.2 ∧ Fr [(200, 11), (200, 24), (200, 25)] [205, 213, 228] s t.2 ∧ ∀ j, j < k → t.2.2.1 205 j = nI (nxt z law (wi z law w j))) K ?_ ?_ (t0 := (0, s)) (f := n) ⟨rfl, H, FrR, fun j hj => by omega⟩ (by omega)
  · obtain ⟨⟨a, t⟩, ⟨p1, p2, p3, p4⟩, p5⟩ := L
    dsimp only at p1 p2 p3 p4 p5
    subst p1
    exact ⟨t, p5, p3, p2, p4⟩
  · rintro i hi ⟨a, t⟩ ⟨p1, p2, p3, p4⟩
    dsimp only at p1 p2 p3 p4
    subst p1
    have Wi : wok z (wi z law w i) := wi_ok Z W0 h1
    have hov : ovr z (wi z law w i) = false := q2 i hi
    have hlt := nxt_lt (law := law) Z Wi h1
    have f1 : Fr [] [205] t (sA t 205 i (nI (nxt z law (wi z law w i)))) := FrA
    obtain ⟨u, u1, u2, u3⟩ := pM_pass hn (HMfr p2 f1) Z hlt
    refine ⟨(nI (i + 1), u), ⟨rfl, u3, FrT p3 (FrT f1 u2 (ks := [(200, 11), (200, 24), (200, 25)]) (cs := [205, 213, 228])), ?_⟩, ?_⟩
    · intro j hj
      show u.2.1 205 j = _
      rw [u2.2.1 205 (by decide), sA2, if_pos rfl, updI]
      by_cases e : j = i
      · rw [if_pos e, e]
      · rw [if_neg e]; exact p4 j (by omega)
    · intro f
      dsimp only
      rw [f_M_tell_42.eq_2, if_neg (npi (by omega) (by omega)), qM_o0 hn p2 hov, clS, if_pos rfl, pM_nextBy hn p2 Z Wi (wi_mok M (by omega)) h1 hl, clS, wrI (by omega) (by decide), u1, cwS2, nI_1]
  · rintro ⟨a, t⟩ ⟨p1, p2, p3, p4⟩ f
    dsimp only at p1 p2 p3 p4
    subst p1
    dsimp only
    rw [f_M_tell_42.eq_2]
    by_cases e : K = m
    · rw [e, if_pos npp]
    · have hov : ovr z (wi z law w K) = true := q3 (by omega)
      rw [if_neg (npi (by omega) (by omega)), qM_o1 hn p2 hov, clS, if_neg (by decide)]
theorem cs_tell (hn : 200 ≤ n) : CS (f_C_tell n X Y V) (f_M_tell n X Y V) := by
  intro s R
  obtain ⟨-, -, -, r4, r, z, w, law, H⟩ := id R
  have h5 := Cav5 H
  obtain ⟨p1, p2⟩ := CavP H
  rcases rngC (x := X) 4 with ⟨x, hx, rfl⟩ | hX
  · rcases rngC (x := Y) 61 with ⟨m, hm, rfl⟩ | hY
    · rcases rngC (x := V) 6 with ⟨y, hy, rfl⟩ | hV
      · by_cases h0 : zP z = 0
        · refine ⟨-4, s, s, ?_, ?_, R⟩
          · unfold f_C_tell
            rw [pC_isLaw_t hx, clS, if_neg (by decide), pC_isSpan, clS, inI60 hm, if_neg (by decide), pC_isRow_t hy, clS, if_neg (by decide), p1, h0, if_pos (by decide)]
          · unfold f_M_tell
            rw [pM_in, clS, inI3 hx, if_neg (by decide), pM_isSpan, clS, inI60 hm, if_neg (by decide), pM_isRow_t hy, clS, if_neg (by decide), p2, h0, if_pos (by decide)]
        · have hne : ¬ nI (zP z) = 0 := by rw [p0 h5]; exact h0
          obtain ⟨t, t1, t2, t3, t4⟩ := q_begin hn (CavV H) H.1
          obtain ⟨u, u1, u2, u3, u4⟩ := qA_goOn (m := m) hn t3 (CavZ H) (CavW H) (by omega) (lawok_n hx) (by omega)
          have hk := @sN_p (fun k => ovr z (wi z (nI x) w k)) m
          obtain ⟨K, hK⟩ : ∃ K, K = sN (fun k => ovr z (wi z (nI x) w k)) m := ⟨_, rfl⟩
          rw [← hK] at u1 u3 u4 hk
          have Fu : Fk bgF aA s u := FkT (FrQ t2) (FrQ u2)
          obtain ⟨g, hg⟩ : ∃ g, g = va_cpy (u.2.1 55) (u.2.1 (20 + y)) 0 0 K := ⟨_, rfl⟩
          have Fr1 : Fk bgF (aA ++ [1, 20, 21, 22, 23, 24, 25]) s (rowC y K g u) := FkT (FkI Fu) (FkI (rowC_fk hy))
          have Mu := HMfk (CavM H) Fr1 (by decide) (by decide)
          obtain ⟨a, a1, a2, a3, a4⟩ := pM_putAside hn Mu
          obtain ⟨b, b1, b2, b3, b4⟩ := pM_t42 (Y := nI y) (k0 := fun x_29 s_30 => mb_cw (f_M_comeBack n s_30) fun s_31 => mb_cl (f_M_row n (nI y) x_29 s_31) fun r_35 s_33 => f_M_tell_98 n (fun x_42 s_43 => some (x_29, s_43)) (nI y) x_29 n 0 s_33) hn a3 (CavZ H) (CavW H) (CavO H) (by omega) (lawok_n hx) (show m ≤ 60 by omega) hK
          obtain ⟨o, o1, o2, o3⟩ := pM_comeBack hn b3 (HPfr a4 b2)
          have F2 : Fk mF mA (rowC y K g u) o := FkT (FkT (FrQ a2) (FrQ b2)) (FrQ o2)
          obtain ⟨G, hG⟩ : ∃ G, G = va_cpy (o.2.1 205) (va_cpy (fun _ => 0) (o.2.1 204) 0 (60 * y) 60) 0 (60 * y) K := ⟨_, rfl⟩
          refine ⟨nI K, rowC y K g u, rowM y K G o, ?_, ?_, Rel_fill R H (FkI Fu) hy (by omega) (FkI F2) o3 ?_ ?_ ?_ ?_ ?_⟩
          · unfold f_C_tell
            rw [pC_isLaw_t hx, clS, if_neg (by decide), pC_isSpan, clS, inI60 hm, if_neg (by decide), pC_isRow_t hy, clS, if_neg (by decide), p1, if_neg hne, t1, cwS2, u1, clS, pC_fill hy (by omega) (by omega) (by decide), cwS2, ← hg]
          · unfold f_M_tell
            rw [pM_in, clS, inI3 hx, if_neg (by decide), pM_isSpan, clS, inI60 hm, if_neg (by decide), pM_isRow_t hy, clS, if_neg (by decide), Mu.2.1, if_neg hne, a1, cwS2, b1, o1, cwS2, pM_row hn hy (by omega), clS, pM_t98 hn hy (by omega), rowM, sVV]
            rw [sV2, if_neg (by decide), sV2, if_pos rfl, sA2, if_neg (by decide), ← hG]
            rfl
          · rw [F2.2.1 223 (by decide), Fr1.2.1 223 (by decide)]; exact H.2.2.2.1
          · rw [F2.1 200 22 (by decide), Fr1.1 200 22 (by decide)]; exact H.2.2.2.2.1
          · rw [F2.1 0 14 (by decide), F2.1 200 2 (by decide), Fr1.1 0 14 (by decide), Fr1.1 200 2 (by decide)]; exact r4
          · intro i hi
            rw [hG, cpy_i hi, hg, cpy00 hi, show 0 + i = i by omega, o2.2.1 205 (by decide), b4 i hi, u4 i hi]
          · intro j hj
            rw [hG, cpy_o (by omega), cpy_o hj]
      · refine ⟨-1, s, s, ?_, ?_, R⟩
        · unfold f_C_tell
          rw [pC_isLaw_t hx, clS, if_neg (by decide), pC_isSpan, clS, inI60 hm, if_neg (by decide), pC_isRow_f hV, clS, if_pos rfl]
        · unfold f_M_tell
          rw [pM_in, clS, inI3 hx, if_neg (by decide), pM_isSpan, clS, inI60 hm, if_neg (by decide), pM_isRow_f hV, clS, if_pos rfl]
    · refine ⟨-1, s, s, ?_, ?_, R⟩
      · unfold f_C_tell
        rw [pC_isLaw_t hx, clS, if_neg (by decide), pC_isSpan, clS, inI60f hY, if_pos rfl]
      · unfold f_M_tell
        rw [pM_in, clS, inI3 hx, if_neg (by decide), pM_isSpan, clS, inI60f hY, if_pos rfl]
  · refine ⟨-1, s, s, ?_, ?_, R⟩
    · unfold f_C_tell
      rw [pC_isLaw_f hX, clS, if_pos rfl]
    · unfold f_M_tell
      rw [pM_in, clS, inI3f hX, if_pos rfl]
end RN
